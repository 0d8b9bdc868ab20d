/** Promises 11 to 18: a test for each sentence that names a boundary case. */
public final class EdgesOfDeedsTest {
    /** Behind a year 2 (h's, with the prize) and 6 (nobody's) of a are OWED. */
    private static final String TEXT = "loan a bonds 6 par 100 coupon 5 years 3 even;loan s bonds 4 par 50 coupon 1 years 2 sink 60;"
            + "holder h cash 10;holder g cash 70;holds h a 1 3;holds g s 1 4;prize a 1 50;";

    public static void main(String[] args) {
        yearTells();
        yearRefused();
        claimAll();
        claimNothing();
        claimOthers();
        sellPrice();
        sellCash();
        sellToItself();
        sellNobodys();
        sellNoneSuch();
        sellOnlyThoseThatStand();
        sellRefused();
        putSum();
        putPlan();
        putYearsOver();
        putOthers();
        pricedSum();
        pricedYear();
        pricedParOrMore();
        pricedOthers();
        wheelRange();
        wheelOthers();
        wheelOfOneOver();
        undoNone();
        undoTwelve();
        undoEach();
        undoAgain();
        refusedIsNotTakenBack();
        imageNumbers();
        imageNothingInIt();
        imageBack();
        imageOverAnother();
        imageHoldsNot();
        imageKeepsItself();
        undoLeavesImages();
        Check.end();
    }

    // ---- promise 11

    private static void yearTells() {
        Check.about("Promise 11: how many BONDS are RETIRED in it");
        DrawnBonds x = Check.house(TEXT);
        // 56 and 50: one of s; then three.
        Check.due("year 1", x.year(), 2 + 1);
        Check.due("year 2", x.year(), 2 + 3);
        Check.due("year 3", x.year(), 2);
        Check.due("year 4: those that LAPSE do not count", x.year(), 0);
    }

    private static void yearRefused() {
        Check.about("Promise 11: NONE: YEAR is 60");
        DrawnBonds x = Check.house(TEXT);
        Check.years(x, 59);
        Check.due("the last one", x.year(), 0);
        Check.due("YEAR", x.count(2), 60);
        Check.unchanged(x, "year", () -> Check.due("one more", x.year(), -1));
        x.undo();
        Check.due("again to 60", x.year(), 0);
    }

    // ---- promise 12

    private static void claimAll() {
        Check.about("Promise 12: what a HOLDER is OWED by a LOAN, all, is claimed: how much it was");
        DrawnBonds x = Check.house("loan a bonds 6 par 100 coupon 0 years 2 even;loan b bonds 1 par 7 coupon 0 years 1 end;holder h cash 1;holder g cash 0;"
                + "holds h a 1 5;holds g a 6 6;holds h b 1 1;prize a 2 9999;");
        Check.years(x, 2);
        int all = x.held(0, 0, 1);
        Check.due("BONDS", all, 5);
        int prizes = (x.bond(0, x.lot(0, 1, 2), 1) == 0 ? 9999 : 0) + (x.bond(0, x.lot(0, 2, 2), 1) == 0 ? 9999 : 0);
        Check.due("of two LOTS", x.claim(0, 0), 500 + prizes);
        Check.due("it comes to its cash", x.cash(0), 501 + prizes);
        Check.due("these are PAID", x.held(0, 0, 2), 5);
        Check.due("another HOLDER's is not", x.held(1, 0, 1), 1);
        Check.due("another LOAN's is not", x.held(0, 1, 1), 1);
        Check.due("that", x.claim(0, 1), 7);
    }

    private static void claimNothing() {
        Check.about("Promise 12: 0, and nothing is done: nothing is OWED");
        DrawnBonds fresh = Check.house(TEXT);
        Check.unchanged(fresh, "claim", () -> Check.due("none was drawn", fresh.claim(0, 0), 0));
        DrawnBonds x = Check.house(TEXT);
        x.year();
        Check.unchanged(x, "claim", () -> {
            Check.due("6 is nobody's: g is OWED nothing by a", x.claim(1, 0), 0);
            Check.due("h by s", x.claim(0, 1), 0);
        });
        DrawnBonds twice = Check.house(TEXT);
        twice.year();
        Check.due("h", twice.claim(0, 0), 150);
        Check.due("done", twice.count(8), 2);
        Check.unchanged(twice, "claim", () -> Check.due("again", twice.claim(0, 0), 0));
    }

    private static void claimOthers() {
        Check.about("Promise 12: NONE: none such");
        DrawnBonds x = Check.house(TEXT);
        x.year();
        Check.unchanged(x, "claim", () -> {
            for (int h : Check.outside(0, 1)) {
                Check.due("holder " + h, x.claim(h, 0), -1);
            }
            for (int l : Check.outside(0, 1)) {
                Check.due("loan " + l, x.claim(0, l), -1);
            }
        });
    }

    // ---- promise 13

    private static DrawnBonds rich() {
        DrawnBonds x = Check.house("loan a bonds 2 par 999 coupon 99 years 2 end;holder h cash 99999;holder g cash 0;holds h a 1 1;holds g a 2 2;");
        x.year();
        return x;
    }

    private static void sellPrice() {
        Check.about("Promise 13: for a price (0 to 99999)");
        DrawnBonds x = rich();
        long h = x.cash(0);
        Check.due("it has more", h, 100098);
        Check.unchanged(x, "sell", () -> {
            Check.due("-1", x.sell(0, 2, 0, -1), false);
            Check.due("100000", x.sell(0, 2, 0, 100000), false);
            Check.due("least", x.sell(0, 2, 0, Integer.MIN_VALUE), false);
            Check.due("most", x.sell(0, 2, 0, Integer.MAX_VALUE), false);
        });
        Check.due("99999", x.sell(0, 2, 0, 99999), true);
        Check.due("cash of h", x.cash(0), h - 99999);
        Check.due("cash of g", x.cash(1), 99 + 99999);
        Check.due("0", x.sell(0, 1, 1, 0), true);
        Check.due("cash of h", x.cash(0), h - 99999);
    }

    private static void sellCash() {
        Check.about("Promise 13: which is in the other one's cash; false: not so much cash");
        DrawnBonds x = Check.house(TEXT);
        Check.unchanged(x, "sell", () -> Check.due("one too much", x.sell(0, 1, 1, 71), false));
        Check.due("all of it", x.sell(0, 1, 1, 70), true);
        Check.due("cash of g", x.cash(1), 0);
        Check.due("cash of h", x.cash(0), 80);
        Check.due("it is g's", x.bond(0, 1, 1), 1);
        Check.due("with no cash, for 1", x.sell(0, 3, 1, 1), false);
        Check.due("with no cash, for 0", x.sell(0, 3, 1, 0), true);
    }

    private static void sellToItself() {
        Check.about("Promise 13: to another one (unlike)");
        DrawnBonds x = Check.house(TEXT);
        Check.unchanged(x, "sell", () -> {
            Check.due("for 0", x.sell(0, 1, 0, 0), false);
            Check.due("for 5", x.sell(1, 4, 1, 5), false);
        });
        Check.due("there", x.sell(0, 1, 1, 0), true);
        Check.due("and back", x.sell(0, 1, 0, 0), true);
    }

    private static void sellNobodys() {
        Check.about("Promise 13: false: nobody holds it");
        DrawnBonds x = Check.house(TEXT);
        Check.unchanged(x, "sell", () -> {
            Check.due("4 to h", x.sell(0, 4, 0, 0), false);
            Check.due("6 to g", x.sell(0, 6, 1, 1), false);
        });
    }

    private static void sellNoneSuch() {
        Check.about("Promise 13: false: none such");
        DrawnBonds x = Check.house(TEXT);
        Check.unchanged(x, "sell", () -> {
            for (int l : Check.outside(0, 1)) {
                Check.due("loan " + l, x.sell(l, 1, 1, 0), false);
            }
            for (int n : Check.outside(1, 6)) {
                Check.due("number " + n, x.sell(0, n, 1, 0), false);
            }
            for (int n : Check.outside(1, 4)) {
                Check.due("number " + n + " of s", x.sell(1, n, 0, 0), false);
            }
            for (int h : Check.outside(0, 1)) {
                Check.due("to " + h, x.sell(0, 1, h, 0), false);
            }
        });
        Check.due("the first", x.sell(0, 1, 1, 0), true);
        Check.due("the last", x.sell(1, 4, 0, 0), true);
    }

    private static void sellOnlyThoseThatStand() {
        Check.about("Promise 13: a BOND that STANDS");
        DrawnBonds x = Check.house("loan a bonds 4 par 100 coupon 0 years 4 even lapse 1;holder h cash 10;holder g cash 70;holds h a 1 4;price a 2 60;");
        x.year();
        int owed = x.lot(0, 1, 1);
        Check.due("OWED", x.sell(0, owed, 1, 0), false);
        x.claim(0, 0);
        Check.due("PAID", x.sell(0, owed, 1, 0), false);
        x.year();
        Check.due("BOUGHT", x.sell(0, x.lot(0, 2, 1), 1, 0), false);
        Check.years(x, 2);
        Check.due("LAPSED", x.bond(0, x.lot(0, 3, 1), 0), 4);
        Check.due("LAPSED", x.sell(0, x.lot(0, 3, 1), 1, 0), false);
        Check.due("OWED in the last year", x.sell(0, x.lot(0, 4, 1), 1, 0), false);
        Check.due("done: four years and a claim", x.count(8), 5);
    }

    private static void sellRefused() {
        Check.about("Promise 13: what is sold is the other one's: coupons, and what is drawn");
        DrawnBonds x = Check.house("loan a bonds 1 par 100 coupon 9 years 2 end;holder h cash 10;holder g cash 70;holds h a 1 1;");
        x.sell(0, 1, 1, 20);
        x.year();
        Check.due("coupon of h", x.cash(0), 30);
        Check.due("coupon of g", x.cash(1), 59);
        x.year();
        Check.due("h", x.claim(0, 0), 0);
        Check.due("g", x.claim(1, 0), 100);
    }

    // ---- promise 14

    private static void putSum() {
        Check.about("Promise 14: a sum (1 to 99999): what it is then");
        DrawnBonds x = Check.house(TEXT);
        Check.unchanged(x, "put", () -> {
            for (int sum : Check.outside(1, 99999)) {
                Check.due("put " + sum, x.put(1, sum), -1);
            }
        });
        Check.due("1", x.put(1, 1), 1);
        Check.due("99999", x.put(1, 99999), 100000);
        Check.due("FUND", Check.loan(x, 1, 8), 100000);
    }

    private static void putPlan() {
        Check.about("Promise 14: NONE: PLAN is not sink");
        DrawnBonds x = Check.house("loan a bonds 6 par 100 coupon 5 years 3 even;loan e bonds 6 par 100 coupon 5 years 3 end;");
        Check.unchanged(x, "put", () -> {
            Check.due("even", x.put(0, 5), -1);
            Check.due("end", x.put(1, 5), -1);
        });
    }

    private static void putYearsOver() {
        Check.about("Promise 14: NONE: its years are over");
        DrawnBonds x = Check.house(TEXT);
        x.year();
        Check.due("ahead of the last year", x.put(1, 5), 11);
        x.year();
        Check.unchanged(x, "put", () -> Check.due("behind it", x.put(1, 5), -1));
        x.undo();
        Check.due("not any more", x.put(1, 5), 16);
        DrawnBonds none = Check.house("loan s bonds 1 par 5 coupon 0 years 3 sink 5;");
        none.year();
        Check.due("none STAND", none.count(3), 0);
        Check.due("but its years are not over", none.put(0, 7), 7);
    }

    private static void putOthers() {
        Check.about("Promise 14: NONE: others");
        DrawnBonds x = Check.house(TEXT);
        Check.unchanged(x, "put", () -> {
            for (int l : Check.outside(0, 1)) {
                Check.due("loan " + l, x.put(l, 5), -1);
            }
        });
    }

    // ---- promise 15

    private static void pricedSum() {
        Check.about("Promise 15: (1 to 999): what it was");
        DrawnBonds x = Check.house(TEXT);
        Check.unchanged(x, "priced", () -> {
            for (int sum : Check.outside(1, 999)) {
                Check.due("sum " + sum, x.priced(0, 1, sum), -1);
            }
        });
        Check.due("1", x.priced(0, 1, 1), 100);
        Check.due("999", x.priced(0, 1, 999), 1);
        Check.due("the same", x.priced(0, 1, 999), 999);
        Check.due("price", x.price(0, 1), 999);
        Check.due("done", x.count(8), 3);
    }

    private static void pricedYear() {
        Check.about("Promise 15: a YEAR to come of a LOAN");
        DrawnBonds x = Check.house(TEXT);
        x.year();
        Check.unchanged(x, "priced", () -> {
            Check.due("one that passed", x.priced(0, 1, 5), -1);
            Check.due("0", x.priced(0, 0, 5), -1);
            Check.due("behind its years", x.priced(0, 4, 5), -1);
            Check.due("behind those of s", x.priced(1, 3, 5), -1);
            Check.due("least", x.priced(0, Integer.MIN_VALUE, 5), -1);
            Check.due("most", x.priced(0, Integer.MAX_VALUE, 5), -1);
        });
        Check.due("the next one", x.priced(0, 2, 5), 100);
        Check.due("the last one", x.priced(0, 3, 5), 100);
        Check.years(x, 2);
        Check.unchanged(x, "priced", () -> Check.due("its years are over", x.priced(0, 3, 6), -1));
    }

    private static void pricedParOrMore() {
        Check.about("Promise 15: with par or more COST is par");
        DrawnBonds x = Check.house(TEXT);
        int[][] of = {{99, 99, 1}, {100, 100, 0}, {101, 100, 0}, {999, 100, 0}, {1, 1, 1}};
        for (int[] one : of) {
            x.priced(0, 1, one[0]);
            Check.due("PRICE", x.price(0, 1), one[0]);
            Check.due("COST at " + one[0], x.row(0, 1, 3), one[1]);
            Check.due("BOUGHT at " + one[0], x.row(0, 1, 4), one[2]);
        }
    }

    private static void pricedOthers() {
        Check.about("Promise 15: NONE: others");
        DrawnBonds x = Check.house(TEXT);
        Check.unchanged(x, "priced", () -> {
            for (int l : Check.outside(0, 1)) {
                Check.due("loan " + l, x.priced(l, 1, 5), -1);
            }
        });
    }

    // ---- promise 16

    private static void wheelRange() {
        Check.about("Promise 16: (1 to 2147483646): what it was");
        DrawnBonds x = Check.house(TEXT);
        Check.unchanged(x, "wheel", () -> {
            Check.due("0", x.wheel(0, 0), -1);
            Check.due("-1", x.wheel(0, -1), -1);
            Check.due("least", x.wheel(0, Integer.MIN_VALUE), -1);
            Check.due("2147483647", x.wheel(0, 2147483647), -1);
        });
        Check.due("2147483646", x.wheel(1, 2147483646), 2);
        Check.due("1", x.wheel(1, 1), 2147483646);
        Check.due("it is so", Check.loan(x, 1, 7), 1);
        Check.due("the other LOAN's stays", Check.loan(x, 0, 7), 1);
    }

    private static void wheelOthers() {
        Check.about("Promise 16: NONE: others");
        DrawnBonds x = Check.house(TEXT);
        Check.unchanged(x, "wheel", () -> {
            for (int l : Check.outside(0, 1)) {
                Check.due("loan " + l, x.wheel(l, 5), -1);
            }
        });
    }

    private static void wheelOfOneOver() {
        Check.about("Promise 16: the WHEEL of a LOAN whose years are over is set too");
        DrawnBonds x = Check.house(TEXT);
        Check.years(x, 9);
        x.wheel(0, 5);
        Check.due("wheel", x.wheel(0, 6), 5);
        Check.due("done", x.count(8), 11);
    }

    // ---- promise 17

    private static void undoNone() {
        Check.about("Promise 17: NONE: none");
        DrawnBonds x = Check.house(TEXT);
        Check.unchanged(x, "undo", () -> Check.due("nothing was done", x.undo(), -1));
        x.wheel(0, 5);
        Check.due("the only one", x.undo(), 0);
        Check.unchanged(x, "undo", () -> Check.due("none any more", x.undo(), -1));
    }

    private static void undoTwelve() {
        Check.about("Part 3: what was done can be taken back, 12 at most");
        for (int done = 11; done <= 14; done++) {
            DrawnBonds x = Check.house(TEXT);
            for (int k = 1; k <= done; k++) {
                x.wheel(0, 100 + k);
            }
            int can = Math.min(12, done);
            Check.due("of " + done, x.count(8), can);
            for (int k = can - 1; k >= 0; k--) {
                Check.due("how many still can be", x.undo(), k);
                Check.due("WHEEL", Check.loan(x, 0, 7), done - can + k == 0 ? 1 : 100 + done - can + k);
            }
            Check.due("none", x.undo(), -1);
            Check.due("WHEEL behind " + done, Check.loan(x, 0, 7), done <= 12 ? 1 : 100 + done - 12);
        }
        DrawnBonds years = Check.house(TEXT);
        Check.years(years, 13);
        for (int k = 0; k < 12; k++) {
            years.undo();
        }
        Check.due("of thirteen YEARS the first stays", years.count(2), 1);
        Check.due("its LOT too", years.lot(0, 1, 0), 2);
    }

    private static void undoEach() {
        Check.about("Part 3: year(), claim(), sell(), put(), price(), wheel() can be taken back");
        DrawnBonds x = Check.house(TEXT);
        Runnable[] deeds = {() -> x.priced(0, 1, 60), () -> x.sell(0, 1, 1, 7), () -> x.put(1, 30), x::year, () -> x.claim(1, 1), () -> x.wheel(1, 9)};
        String[] before = new String[2];
        for (int k = 0; k < deeds.length; k++) {
            before[0] = Check.loan(x, 1, 7) + " " + Check.loan(x, 1, 8) + " " + all(x);
            deeds[k].run();
            before[1] = Check.loan(x, 1, 7) + " " + Check.loan(x, 1, 8) + " " + all(x);
            Check.due("deed " + k + " does something", before[0].equals(before[1]), false);
            Check.due("undo of " + k, x.undo(), k);
            Check.same("undo of " + k, Check.loan(x, 1, 7) + " " + Check.loan(x, 1, 8) + " " + all(x), before[0]);
            deeds[k].run();
        }
        Check.due("done", x.count(8), 6);
    }

    /** Fewer calls than all that can be asked, as there are many deeds here. */
    private static String all(DrawnBonds x) {
        StringBuilder s = new StringBuilder();
        for (int n = 1; n <= 6; n++) {
            s.append(x.bond(0, n, 0)).append(x.bond(0, n, 1)).append(' ').append(x.bond(1, n, 0)).append(' ').append(x.bond(0, n, 4)).append(' ');
        }
        return s.append(x.price(0, 1)).append(' ').append(x.cash(0)).append(' ').append(x.cash(1)).append(' ').append(x.count(2)).append(' ')
                .append(x.paid(0, 0)).append(' ').append(x.paid(1, 1)).append(' ').append(x.lot(1, 1, 0)).toString();
    }

    private static void undoAgain() {
        Check.about("Promise 17: the latest is taken back, then the one ahead of it");
        DrawnBonds x = Check.house(TEXT);
        x.put(1, 1);
        x.put(1, 10);
        x.put(1, 100);
        x.undo();
        Check.due("100", Check.loan(x, 1, 8), 11);
        x.put(1, 1000);
        x.undo();
        Check.due("1000", Check.loan(x, 1, 8), 11);
        x.undo();
        Check.due("10", Check.loan(x, 1, 8), 1);
        x.undo();
        Check.due("1", Check.loan(x, 1, 8), 0);
    }

    private static void refusedIsNotTakenBack() {
        Check.about("Promise 17: what was refused, asked or undone is not taken back");
        DrawnBonds x = Check.house(TEXT);
        x.wheel(0, 7);
        x.wheel(0, 0);
        x.claim(0, 0);
        x.claim(9, 9);
        x.sell(0, 4, 1, 0);
        x.put(0, 5);
        x.priced(0, 0, 5);
        x.image(0, false);
        x.feed(0, 0, 0, 0, 0);
        x.text(99);
        x.text(20);
        x.odds(0, 1);
        x.ifPrice(0, 1, 5, 1);
        x.needs(1, 1);
        x.replayed(0, 1, 5);
        Check.due("one", x.count(8), 1);
        Check.due("undo", x.undo(), 0);
        Check.due("WHEEL", Check.loan(x, 0, 7), 1);
    }

    // ---- promise 18

    private static void imageNumbers() {
        Check.about("Promise 18: false: none such (IMAGES 0, 1)");
        DrawnBonds x = Check.house(TEXT);
        Check.unchanged(x, "image", () -> {
            for (int k : Check.outside(0, 1)) {
                Check.due("image " + k, x.image(k, false), false);
                Check.due("image " + k + " back", x.image(k, true), false);
            }
        });
        Check.due("0", x.image(0, false), true);
        Check.due("1", x.image(1, false), true);
    }

    private static void imageNothingInIt() {
        Check.about("Promise 18: false: (back) nothing is in it");
        DrawnBonds x = Check.house(TEXT);
        x.year();
        Check.unchanged(x, "image", () -> {
            Check.due("0 back", x.image(0, true), false);
            Check.due("1 back", x.image(1, true), false);
        });
        x.image(1, false);
        Check.due("0 back", x.image(0, true), false);
        Check.due("what can be taken back stays", x.count(8), 1);
        Check.due("1 back", x.image(1, true), true);
    }

    private static void imageBack() {
        Check.about("Promise 18: back: all is as in it, nothing can be taken back");
        DrawnBonds x = Check.house(TEXT);
        x.priced(0, 3, 50);
        x.put(1, 5);
        x.sell(0, 3, 1, 7);
        x.year();
        x.image(1, false);
        String then = Check.seen(x).replaceFirst("count8=\\d+", "count8=0");
        Check.due("what was done can still be taken back", x.count(8), 4);
        x.claim(0, 0);
        x.priced(0, 3, 60);
        x.year();
        x.wheel(0, 4);
        Check.due("back", x.image(1, true), true);
        Check.same("image back", Check.seen(x), then);
        Check.due("undo", x.undo(), -1);
        Check.due("replayed", x.replayed(0, 1, 0), 2);
        Check.due("the LOT of a YEAR that is to come again", x.lot(0, 2, 0), -1);
        DrawnBonds two = Check.house(TEXT);
        two.image(0, false);
        two.year();
        two.image(1, false);
        two.image(0, true);
        two.wheel(0, 3);
        two.year();
        Check.due("3 draws another LOT than 1", two.replayed(0, 1, 1), 0);
        two.image(1, true);
        Check.due("the WHEEL ahead of a LOT is in it", two.replayed(0, 1, 0), 2);
        Check.due("it was 1", two.replayed(0, 1, 1), 2);
    }

    private static void imageOverAnother() {
        Check.about("Promise 18: IMAGE k is laid: over what was in it, not over the other one");
        DrawnBonds x = Check.house(TEXT);
        x.image(0, false);
        x.image(1, false);
        x.year();
        x.image(1, false);
        x.year();
        x.image(1, true);
        Check.due("1", x.count(2), 1);
        x.image(0, true);
        Check.due("0", x.count(2), 0);
        x.image(1, true);
        Check.due("1 again", x.count(2), 1);
    }

    private static void imageHoldsNot() {
        Check.about("Part 3: IMAGES hold all but THE TAPE, the TEXT's LINES, what is below");
        DrawnBonds x = Check.house(TEXT);
        x.image(0, false);
        x.feed(0x20202020, 0x20202020, 0x20202020, 0x20202020, 0x20202020);
        x.odds(0, 1);
        x.image(0, true);
        Check.due("THE TAPE", x.count(10), 20);
        Check.due("below", x.below(), 3);
        Check.due("the LINES", x.count(0), 2);
    }

    private static void imageKeepsItself() {
        Check.about("Promise 18: an IMAGE is as it was laid, however often one goes back");
        DrawnBonds x = Check.house(TEXT);
        x.image(0, false);
        for (int k = 0; k < 3; k++) {
            x.year();
            x.sell(0, 1, 1, 5);
            x.put(1, 50);
            x.wheel(0, 44);
            x.priced(0, 3, 9);
            x.image(0, true);
            Check.due("YEAR", x.count(2), 0);
            Check.due("HOLDER", x.bond(0, 1, 1), 0);
            Check.due("FUND", Check.loan(x, 1, 8), 0);
            Check.due("WHEEL", Check.loan(x, 0, 7), 1);
            Check.due("PRICE", x.price(0, 3), 100);
            Check.due("cash", x.cash(0), 10);
        }
    }

    private static void undoLeavesImages() {
        Check.about("Promise 18: what is taken back does not touch IMAGES, nor does an IMAGE count as done");
        DrawnBonds x = Check.house(TEXT);
        x.year();
        x.image(0, false);
        Check.due("done", x.count(8), 1);
        x.undo();
        Check.due("IMAGES", x.count(9), 1);
        Check.due("YEAR", x.count(2), 0);
        Check.due("back", x.image(0, true), true);
        Check.due("YEAR 1", x.count(2), 1);
        Check.due("nothing to take back", x.undo(), -1);
    }
}
