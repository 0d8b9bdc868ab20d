/** Promises 11 to 18: year, claim, sell, put, priced, wheel, undo, image. */
public final class DeedsTest {
    public static void main(String[] args) {
        evenYears();
        sinkYears();
        sinkBelowInterest();
        endYears();
        lastYearDraws();
        sixtyYears();
        lapses();
        claims();
        sales();
        puts();
        pricesToldAnew();
        wheels();
        undos();
        undoOfEach();
        images();
        Check.end();
    }

    private static void evenYears() {
        // 7 by 3: 2, then 4, then 7 altogether.
        DrawnBonds x = Check.house("loan a bonds 7 par 100 coupon 2 years 3 even;holder h cash 0;holds h a 1 7;price a 2 60;price a 3 10;");
        Check.due("year 1", x.year(), 2);
        Check.due("interest on 7", x.cash(0), 14);
        Check.due("year 2", x.year(), 2);
        Check.due("interest on 5, two bought for 60", x.cash(0), 14 + 10 + 120);
        Check.due("bought", x.count(6), 2);
        Check.due("year 3", x.year(), 3);
        Check.due("drawn in the last year, whatever its price", x.count(4), 5);
        Check.due("year 4", x.year(), 0);
        Check.due("no interest behind its years", x.cash(0), 14 + 10 + 120 + 6);
        Check.due("all claimed", x.claim(0, 0), 500);
    }

    private static void sinkYears() {
        // 4 stand: 150 - 40 = 110, one drawn, 10 left; 3 stand: 120 more, 130 by 50, two bought, 30 left.
        DrawnBonds x = Check.house("loan b bonds 4 par 100 coupon 10 years 4 sink 150;holder h cash 0;holds h b 1 4;price b 2 50;");
        Check.due("year 1", x.year(), 1);
        Check.due("fund 1", Check.loan(x, 0, 8), 10);
        Check.due("owed", x.paid(0, 4), 100);
        Check.due("year 2", x.year(), 2);
        Check.due("fund 2", Check.loan(x, 0, 8), 30);
        Check.due("cash", x.cash(0), 40 + 30 + 100);
        Check.due("year 3: not more than STAND", x.year(), 1);
        Check.due("fund 3", Check.loan(x, 0, 8), 70);
        Check.due("year 4: none stand", x.year(), 0);
        Check.due("fund 4: it stays in the last year", Check.loan(x, 0, 8), 70);
    }

    private static void sinkBelowInterest() {
        DrawnBonds x = Check.house("loan b bonds 10 par 10 coupon 9 years 3 sink 5;");
        x.put(0, 25);
        Check.due("by nothing, if that is below 0", x.row(0, 1, 5), 5);
        Check.due("year 1", x.year(), 2);
        Check.due("fund", Check.loan(x, 0, 8), 5);
        Check.due("year 2", x.year(), 0);
        Check.due("year 3", x.year(), 8);
        Check.due("fund stays", Check.loan(x, 0, 8), 5);
    }

    private static void endYears() {
        DrawnBonds x = Check.house("loan e bonds 3 par 10 coupon 1 years 2 end;holder h cash 0;holds h e 1 2;price e 1 1;");
        Check.due("year 1", x.year(), 0);
        Check.due("interest", x.cash(0), 2);
        Check.due("to nobody, too", x.paid(0, 0), 3);
        Check.due("year 2", x.year(), 3);
        Check.due("all drawn", x.count(4), 3);
    }

    private static void lastYearDraws() {
        DrawnBonds x = Check.house("loan e bonds 3 par 10 coupon 0 years 1 even;holder h cash 0;holds h e 1 3;price e 1 1;prize e 2 7;");
        Check.due("year 1", x.year(), 3);
        Check.due("drawn", x.count(4), 3);
        Check.due("par and prize of rank 2", x.claim(0, 0), 37);
        Check.due("who had rank 2", x.bond(0, x.lot(0, 1, 2), 4), 17);
    }

    private static void sixtyYears() {
        DrawnBonds x = Check.house("loan e bonds 3 par 10 coupon 1 years 2 end;");
        for (int y = 1; y <= 60; y++) {
            Check.due("year " + y, x.year(), y == 2 ? 3 : 0);
        }
        Check.due("year 61", x.year(), -1);
        Check.due("YEAR", x.count(2), 60);
        Check.due("nothing was done", x.count(8), 12);
        Check.due("undo", x.undo(), 11);
        Check.due("YEAR 59", x.count(2), 59);
        Check.due("year 60 again", x.year(), 0);
    }

    private static void lapses() {
        DrawnBonds x = Check.house("loan a bonds 4 par 10 coupon 0 years 4 even lapse 2;loan b bonds 2 par 20 coupon 0 years 1 end;"
                + "holder h cash 0;holds h a 1 4;holds h b 1 2;prize a 1 5;");
        Check.years(x, 2);
        Check.due("one year ago", x.count(7), 0);
        Check.due("owed", x.paid(0, 4), 30);
        Check.years(x, 1);
        Check.due("two years ago", x.count(7), 1);
        Check.due("what LAPSED", x.paid(0, 3), 15);
        Check.due("nobody gets it", x.claim(0, 0), 30);
        Check.years(x, 17);
        Check.due("19 years ago, 20 without lapse", x.held(0, 1, 1), 2);
        Check.due("YEAR", x.count(2), 20);
        x.year();
        Check.due("20 years ago", x.held(0, 1, 4), 2);
        Check.due("of a, the last one lapsed behind its years", x.held(0, 0, 4), 2);
        Check.due("nothing is owed", x.claim(0, 1), 0);
        Check.due("cash", x.cash(0), 30);
    }

    private static void claims() {
        DrawnBonds x = Check.house("loan a bonds 6 par 100 coupon 0 years 3 even;holder h cash 10;holder g cash 0;holds h a 1 3;holds g a 4 6;prize a 1 50;");
        Check.due("nothing is owed", x.claim(0, 0), 0);
        Check.due("nothing is done", x.count(8), 0);
        x.year();
        Check.due("holder 2", x.claim(2, 0), -1);
        Check.due("nobody", x.claim(-1, 0), -1);
        Check.due("loan 1", x.claim(0, 1), -1);
        Check.due("loan -1", x.claim(0, -1), -1);
        Check.due("h", x.claim(0, 0), 150);
        Check.due("cash of h", x.cash(0), 160);
        Check.due("g's stays OWED", x.held(1, 0, 1), 1);
        Check.due("g", x.claim(1, 0), 100);
        Check.due("again", x.claim(1, 0), 0);
        Check.due("done", x.count(8), 3);
    }

    private static void sales() {
        DrawnBonds x = Check.house("loan a bonds 6 par 100 coupon 5 years 3 even;holder h cash 10;holder g cash 70;holds h a 1 3;");
        Check.due("too dear", x.sell(0, 1, 1, 71), false);
        Check.due("for all its cash", x.sell(0, 1, 1, 70), true);
        Check.due("cash of g", x.cash(1), 0);
        Check.due("cash of h", x.cash(0), 80);
        Check.due("it is g's", x.bond(0, 1, 1), 1);
        Check.due("to itself", x.sell(0, 1, 1, 0), false);
        Check.due("for nothing", x.sell(0, 3, 1, 0), true);
        Check.due("price -1", x.sell(0, 3, 0, -1), false);
        Check.due("nobody holds it", x.sell(0, 4, 0, 1), false);
        Check.due("bond 0", x.sell(0, 0, 0, 1), false);
        Check.due("bond 7", x.sell(0, 7, 0, 1), false);
        Check.due("loan 1", x.sell(1, 1, 0, 1), false);
        Check.due("loan -1", x.sell(-1, 1, 0, 1), false);
        Check.due("to 2", x.sell(0, 1, 2, 0), false);
        Check.due("to nobody", x.sell(0, 1, -1, 0), false);
        Check.due("done", x.count(8), 2);
        x.year();
        Check.due("2 was drawn", x.bond(0, 2, 0), 1);
        Check.due("one that doesn't STAND", x.sell(0, 2, 1, 0), false);
        Check.due("interest to whom it is now", x.cash(1), 10);

        DrawnBonds rich = Check.house("loan a bonds 60 par 999 coupon 99 years 2 end;holder h cash 99999;holder g cash 0;holds h a 1 60;");
        rich.year();
        Check.due("cash of h", rich.cash(0), 99999 + 5940);
        rich.sell(0, 1, 1, 0);
        Check.due("100000 is too much", rich.sell(0, 1, 0, 100000), false);
        Check.due("99999", rich.sell(0, 1, 0, 99999), true);
    }

    private static void puts() {
        DrawnBonds x = Check.house("loan s bonds 4 par 100 coupon 0 years 2 sink 50;loan e bonds 4 par 100 coupon 0 years 2 even;loan n bonds 1 par 1 coupon 0 years 2 end;");
        Check.due("0", x.put(0, 0), -1);
        Check.due("-1", x.put(0, -1), -1);
        Check.due("100000", x.put(0, 100000), -1);
        Check.due("even", x.put(1, 5), -1);
        Check.due("end", x.put(2, 5), -1);
        Check.due("loan 3", x.put(3, 5), -1);
        Check.due("loan -1", x.put(-1, 5), -1);
        Check.due("1", x.put(0, 1), 1);
        Check.due("99999", x.put(0, 99999), 100000);
        Check.due("done", x.count(8), 2);
        x.undo();
        Check.due("49 more", x.put(0, 49), 50);
        Check.due("year 1: one is due", x.lot(0, 1, 0), -1);
        x.year();
        Check.due("year 1: one was due", x.lot(0, 1, 0), 1);
        Check.due("ahead of the last year", x.put(0, 5), 5);
        x.year();
        Check.due("its years are over", x.put(0, 5), -1);
    }

    private static void pricesToldAnew() {
        DrawnBonds x = Check.house("loan a bonds 6 par 100 coupon 0 years 3 even;price a 2 40;");
        Check.due("was par", x.priced(0, 1, 99), 100);
        Check.due("was told", x.priced(0, 2, 999), 40);
        Check.due("it is so", x.price(0, 2), 999);
        Check.due("the last year too", x.priced(0, 3, 1), 100);
        Check.due("year 0", x.priced(0, 0, 5), -1);
        Check.due("year 4", x.priced(0, 4, 5), -1);
        Check.due("sum 0", x.priced(0, 1, 0), -1);
        Check.due("sum 1000", x.priced(0, 1, 1000), -1);
        Check.due("loan 1", x.priced(1, 1, 5), -1);
        Check.due("loan -1", x.priced(-1, 1, 5), -1);
        Check.due("done", x.count(8), 3);
        Check.due("bought in 1", x.row(0, 1, 4), 1);
        Check.due("par or more: COST is par", x.row(0, 2, 3), 100);
        x.year();
        Check.due("a year that passed", x.priced(0, 1, 5), -1);
        Check.due("its price stays", x.price(0, 1), 99);
        Check.due("for BOUGHT ones", x.paid(0, 2), 198);
    }

    private static void wheels() {
        DrawnBonds x = Check.house("loan a bonds 6 par 100 coupon 0 years 3 even;loan b bonds 1 par 1 coupon 0 years 1 end;");
        Check.due("loan b", x.wheel(1, 2147483646), 2);
        Check.due("0", x.wheel(0, 0), -1);
        Check.due("-1", x.wheel(0, -1), -1);
        Check.due("2147483647", x.wheel(0, Integer.MAX_VALUE), -1);
        Check.due("loan 2", x.wheel(2, 1), -1);
        Check.due("loan -1", x.wheel(-1, 1), -1);
        Check.due("done", x.count(8), 1);
        x.year();
        // 48271 times -1 is -48271: 2147483647 less that.
        Check.due("wheel of b", Check.loan(x, 1, 7), 2147483647 - 48271);
        Check.due("its years over", x.wheel(1, 7), 2147483647 - 48271);
        Check.due("it is so", Check.loan(x, 1, 7), 7);
        Check.due("the least", x.wheel(1, 1), 7);
    }

    private static void undos() {
        DrawnBonds x = Check.house("loan a bonds 6 par 100 coupon 0 years 3 even;");
        Check.due("none", x.undo(), -1);
        for (int k = 1; k <= 15; k++) {
            x.wheel(0, 100 + k);
            Check.due("can be taken back " + k, x.count(8), Math.min(12, k));
        }
        for (int k = 11; k >= 0; k--) {
            Check.due("undo to " + k, x.undo(), k);
            Check.due("WHEEL", Check.loan(x, 0, 7), 103 + k);
        }
        Check.due("none more", x.undo(), -1);
        Check.due("WHEEL stays", Check.loan(x, 0, 7), 103);
        x.wheel(0, 5);
        Check.due("once more", x.undo(), 0);
        Check.due("WHEEL back", Check.loan(x, 0, 7), 103);
    }

    private static void undoOfEach() {
        DrawnBonds x = Check.house("loan a bonds 6 par 100 coupon 5 years 3 sink 230;holder h cash 10;holder g cash 70;holds h a 1 6;");
        x.odds(0, 1);
        Check.due("below", x.below(), 3);
        x.priced(0, 2, 60);
        x.sell(0, 1, 1, 20);
        x.put(0, 30);
        x.year();
        x.claim(0, 0);
        x.wheel(0, 9);
        Check.due("done", x.count(8), 6);
        x.undo();
        Check.due("wheel", Check.loan(x, 0, 7) == 9, false);
        long cash = x.cash(0);
        x.undo();
        Check.due("claim", cash - x.cash(0), 200);
        Check.due("OWED again", x.count(4), 2);
        x.undo();
        Check.due("year", x.count(2), 0);
        Check.due("no LOT", x.lot(0, 1, 0), -1);
        Check.due("all STAND", x.count(3), 6);
        for (int n = 1; n <= 6; n++) {
            Check.due("YEAR of it", x.bond(0, n, 2), 0);
            Check.due("place of it", x.bond(0, n, 3), 0);
        }
        Check.due("WHEEL", Check.loan(x, 0, 7), 1);
        Check.due("FUND", Check.loan(x, 0, 8), 30);
        x.undo();
        Check.due("put", Check.loan(x, 0, 8), 0);
        x.undo();
        Check.due("sell", x.bond(0, 1, 1), 0);
        Check.due("cash of g", x.cash(1), 70);
        Check.due("cash of h", x.cash(0), 10);
        x.undo();
        Check.due("priced", x.price(0, 2), 100);
        Check.due("what is below stays", x.below(), 3);
    }

    private static void images() {
        DrawnBonds x = Check.house("loan a bonds 6 par 100 coupon 5 years 3 sink 230;holder h cash 10;holder g cash 70;holds h a 1 6;");
        Check.due("nothing in 0", x.image(0, true), false);
        Check.due("no image 2", x.image(2, false), false);
        Check.due("no image -1", x.image(-1, false), false);
        Check.due("no image 2, back", x.image(2, true), false);
        x.priced(0, 2, 60);
        x.put(0, 5);
        Check.due("laid", x.image(0, false), true);
        Check.due("can still be taken back", x.count(8), 2);
        x.year();
        x.claim(0, 0);
        Check.due("laid", x.image(1, false), true);
        long cash = x.cash(0);
        x.year();
        x.feed(1, 2, 3, 4, 5);
        x.life(0);
        long below = x.below();
        Check.due("back to 0", x.image(0, true), true);
        Check.due("YEAR", x.count(2), 0);
        Check.due("nothing can be taken back", x.count(8), 0);
        Check.due("undo", x.undo(), -1);
        Check.due("price told anew is in it", x.price(0, 2), 60);
        Check.due("FUND", Check.loan(x, 0, 8), 5);
        Check.due("cash", x.cash(0), 10);
        Check.due("THE TAPE is not in it", x.count(10), 20);
        Check.due("what is below is not in it", x.below(), below);
        Check.due("both still hold something", x.count(9), 2);
        Check.due("back to 1", x.image(1, true), true);
        Check.due("YEAR", x.count(2), 1);
        Check.due("cash", x.cash(0), cash);
        Check.due("LOT", x.lot(0, 1, 0), 2);
        Check.due("replayed", x.replayed(0, 1, 0), 2);
        x.wheel(0, 77);
        x.image(1, false);
        x.wheel(0, 78);
        Check.due("laid anew, and back", x.image(1, true), true);
        Check.due("WHEEL", Check.loan(x, 0, 7), 77);
        x.year();
        Check.due("an IMAGE stays as it was", x.image(1, true), true);
        Check.due("YEAR", x.count(2), 1);
        x.image(0, true);
        x.wheel(0, 4);
        x.year();
        Check.due("another LOT in the same YEAR", x.replayed(0, 1, 4), 2);
        x.image(1, true);
        Check.due("the WHEEL ahead of a LOT is in it", x.replayed(0, 1, 0), 2);
    }
}
