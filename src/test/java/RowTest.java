/** Promises 19 to 30: row, toPay, odds, worth, life, half, yields, atLeast, lasting, below, ifPrice, needs. */
public final class RowTest {
    private static final String SINK = "loan b bonds 4 par 100 coupon 10 years 4 sink 150;holder h cash 500;holder g cash 0;holds h b 1 3;price b 2 50;";
    private static final String EVEN = "loan a bonds 6 par 100 coupon 5 years 3 even;holder h cash 10;holds h a 1 3;prize a 1 50;prize a 3 7;";

    public static void main(String[] args) {
        rows();
        rowIsWhatComes();
        toPay();
        odds();
        worth();
        hugeWorth();
        lifeAndHalf();
        yields();
        atLeastBySets();
        atLeastEdges();
        lasting();
        below();
        ifPrice();
        needs();
        needsIsNotEven();
        Check.end();
    }

    private static void rows() {
        DrawnBonds x = Check.house(SINK);
        int[][] want = {{4, 40, 1, 100, 0, 10}, {3, 30, 2, 50, 1, 30}, {1, 10, 1, 100, 0, 70}, {0, 0, 0, 100, 0, 70}};
        for (int y = 1; y <= 4; y++) {
            for (int what = 0; what < 6; what++) {
                Check.due("row " + y + " " + what, x.row(0, y, what), want[y - 1][what]);
            }
            Check.due("row " + y + " -1", x.row(0, y, -1), -1);
            Check.due("row " + y + " 6", x.row(0, y, 6), -1);
        }
        Check.due("year 0", x.row(0, 0, 0), -1);
        Check.due("year 5", x.row(0, 5, 0), -1);
        Check.due("loan 1", x.row(1, 1, 0), -1);
        Check.due("loan -1", x.row(-1, 1, 0), -1);
        x.wheel(0, 12345);
        Check.due("it hangs on no WHEEL", x.row(0, 2, 2), 2);
        x.year();
        Check.due("a year that passed", x.row(0, 1, 0), -1);
        Check.due("the next one", x.row(0, 2, 5), 30);
        DrawnBonds e = Check.house("loan e bonds 5 par 10 coupon 1 years 3 end;price e 1 2;");
        int[][] end = {{5, 5, 0, 10, 0, 0}, {5, 5, 0, 10, 0, 0}, {5, 5, 5, 10, 0, 0}};
        for (int y = 1; y <= 3; y++) {
            for (int what = 0; what < 6; what++) {
                Check.due("end " + y + " " + what, e.row(0, y, what), end[y - 1][what]);
            }
        }
    }

    private static void rowIsWhatComes() {
        DrawnBonds x = Check.house("loan b bonds 60 par 90 coupon 3 years 20 sink 333;price b 2 50;price b 7 91;price b 9 1;");
        x.put(0, 100);
        for (int y = 1; y <= 20; y++) {
            long due = x.row(0, y, 2);
            long interest = x.paid(0, 0) + x.row(0, y, 1);
            long fund = x.row(0, y, 5);
            Check.due("stand " + y, x.row(0, y, 0), x.count(3));
            Check.due("due " + y, x.year(), due);
            Check.due("fund " + y, Check.loan(x, 0, 8), fund);
            Check.due("interest " + y, x.paid(0, 0), interest);
        }
    }

    private static void toPay() {
        DrawnBonds x = Check.house(SINK);
        Check.due("40 30 10, and 100 100 100", x.toPay(0), 380);
        Check.due("loan 1", x.toPay(1), -1);
        Check.due("loan -1", x.toPay(-1), -1);
        x.year();
        Check.due("in 1", x.toPay(0), 240);
        Check.years(x, 3);
        Check.due("its years are over", x.toPay(0), 0);
        DrawnBonds e = Check.house(EVEN);
        // 30 20 10; 600; rank 1 each year, rank 3 in none.
        Check.due("with prizes", e.toPay(0), 810);
        e.priced(0, 1, 90);
        Check.due("no prizes for BOUGHT ones", e.toPay(0), 740);
        DrawnBonds n = Check.house("loan a bonds 4 par 10 coupon 0 years 2 end;prize a 4 3;prize a 5 1000;");
        Check.due("RANKS to DUE", n.toPay(0), 43);
    }

    private static void odds() {
        DrawnBonds x = Check.house(SINK);
        Check.fraction("odds 1", x, x.odds(0, 1), 1, 4);
        Check.fraction("odds 2", x, x.odds(0, 2), 1, 2);
        Check.fraction("odds 4", x, x.odds(0, 4), 0, 1);
        Check.fraction("odds 3", x, x.odds(0, 3), 1, 4);
        Check.fraction("odds 0", x, x.odds(0, 0), -1, 4);
        Check.fraction("odds 5", x, x.odds(0, 5), -1, 4);
        Check.fraction("loan 1", x, x.odds(1, 1), -1, 4);
        Check.fraction("loan -1", x, x.odds(-1, 1), -1, 4);
        Check.years(x, 3);
        Check.fraction("none STAND", x, x.odds(0, 4), -1, 4);
    }

    private static void worth() {
        DrawnBonds x = Check.house(EVEN);
        // 280, 270, 260 by 6: at 25 in a hundred 4/5, 16/25, 64/125.
        Check.fraction("worth 0", x, x.worth(0, 0), 135, 1);
        Check.fraction("worth 25", x, x.worth(0, 25), 2208, 25);
        // 280/6 10/11 + 270/6 100/121 + 260/6 1000/1331
        Check.fraction("worth 10", x, x.worth(0, 10), 149300, 1331);
        Check.fraction("worth 99", x, x.worth(0, 99), 317688000, 7880599);
        long below = x.below();
        Check.due("i -1", x.worth(0, -1), -1);
        Check.due("i 100", x.worth(0, 100), -1);
        Check.due("loan 1", x.worth(1, 5), -1);
        Check.due("loan -1", x.worth(-1, 5), -1);
        Check.years(x, 3);
        Check.due("none STAND", x.worth(0, 5), -1);
        Check.due("below stays", x.below(), below);
    }

    private static void hugeWorth() {
        // At 60 in a hundred q is 8: B is 2 to the 60, times S.
        DrawnBonds four = Check.house("loan a bonds 4 par 1 coupon 0 years 20 end;");
        Check.fraction("B is 2 to the 62", four, four.worth(0, 60), 95367431640625L, 1L << 60);
        Check.fraction("B is above it", four, four.worth(0, 61), -2, 1L << 60);
        DrawnBonds five = Check.house("loan a bonds 5 par 1 coupon 0 years 20 end;");
        Check.fraction("B is 5 times 2 to the 60", five, five.worth(0, 60), -2, 1);
        five.year();
        Check.fraction("a year later", five, five.worth(0, 60), 19073486328125L, 1L << 57);
        DrawnBonds dear = Check.house("loan a bonds 4 par 1 coupon 99 years 20 end;");
        Check.fraction("all together is above it", dear, dear.worth(0, 60), -2, 1);
        // Each part of the sum is above it, too.
        DrawnBonds parts = Check.house("loan a bonds 4 par 999 coupon 99 years 9 end;");
        Check.fraction("all parts are above it", parts, parts.worth(0, 1), -2, 1);
        Check.fraction("by nothing", dear, dear.worth(0, 0), 1981, 1);
        // Only all together, not B, goes beyond: 7 to the 20, and 63 times that.
        DrawnBonds one = Check.house("loan a bonds 1 par 100 coupon 40 years 20 end;");
        Check.due("at 75", one.worth(0, 75) > 0, true);
        Check.due("at 40", one.worth(0, 40), -2);
    }

    private static void lifeAndHalf() {
        DrawnBonds x = Check.house(SINK);
        // 1 and 4 and 3 years, by 4.
        Check.fraction("life", x, x.life(0), 2, 1);
        Check.due("half: 1 of 4, then 3", x.half(0), 2);
        Check.due("life of loan 1", x.life(1), -1);
        Check.due("life of loan -1", x.life(-1), -1);
        Check.due("half of loan 1", x.half(1), -1);
        Check.due("half of loan -1", x.half(-1), -1);
        x.year();
        Check.fraction("life in 1", x, x.life(0), 4, 3);
        Check.due("half in 1", x.half(0), 2);
        x.year();
        Check.due("half in 2 is a YEAR, not how many", x.half(0), 3);
        x.year();
        Check.fraction("none STAND", x, x.life(0), -1, 3);
        Check.due("none STAND, half", x.half(0), -1);
        DrawnBonds e = Check.house("loan a bonds 6 par 1 coupon 0 years 6 even;loan b bonds 5 par 1 coupon 0 years 5 even;loan c bonds 3 par 1 coupon 0 years 9 end;");
        Check.due("just half", e.half(0), 3);
        Check.due("more than half", e.half(1), 3);
        Check.due("at the end", e.half(2), 9);
        Check.fraction("life a", e, e.life(0), 7, 2);
        Check.fraction("life c", e, e.life(2), 9, 1);
    }

    private static void yields() {
        DrawnBonds x = Check.house(EVEN);
        Check.due("135", x.yields(0, 135), 0);
        Check.due("136", x.yields(0, 136), -2);
        Check.due("88", x.yields(0, 88), 25);
        Check.due("89", x.yields(0, 89), 24);
        Check.due("1", x.yields(0, 1), 99);
        Check.due("99999", x.yields(0, 99999), -2);
        Check.due("0", x.yields(0, 0), -1);
        Check.due("100000", x.yields(0, 100000), -1);
        Check.due("loan 1", x.yields(1, 5), -1);
        Check.due("loan -1", x.yields(-1, 5), -1);
        x.life(0);
        x.odds(0, 1);
        x.yields(0, 88);
        Check.due("it tells no FRACTION", x.below(), 3);
        Check.years(x, 3);
        Check.due("none STAND", x.yields(0, 5), -1);
        // With 20 years only 0, 20, 25, 40, 50, 60 and 75 have a small q; at 60 all together is HUGE.
        DrawnBonds one = Check.house("loan a bonds 1 par 100 coupon 10 years 20 end;");
        int[][] want = {{1, 75}, {13, 75}, {14, 50}, {20, 50}, {21, 40}, {25, 40}, {26, 25}, {40, 25}, {41, 20}, {51, 20}, {52, 0}, {300, 0}, {301, -2}};
        for (int[] pair : want) {
            Check.due("at " + pair[0], one.yields(0, pair[0]), pair[1]);
        }
    }

    private static long divisor(long a, long b) {
        return b == 0 ? a : divisor(b, a % b);
    }

    /** Every set of due out of all is looked at; own are the lowest numbers. */
    private static long sets(int all, int due, int own, int least) {
        long n = 0;
        for (int set = 0; set < 1 << all; set++) {
            if (Integer.bitCount(set) == due && Integer.bitCount(set & (1 << own) - 1) >= least) {
                n++;
            }
        }
        return n;
    }

    private static void atLeastBySets() {
        for (int all = 1; all <= 9; all++) {
            for (int own = 0; own <= all; own++) {
                for (int due = 0; due <= all; due++) {
                    DrawnBonds x = Check.house("loan a bonds " + all + " par 10 coupon 0 years 3 sink 1;holder h cash 0;"
                            + (own > 0 ? "holds h a 1 " + own + ";" : ""));
                    if (due > 0) {
                        x.put(0, 10 * due - 1);
                    }
                    long whole = sets(all, due, own, 0);
                    for (int j = 0; j <= all + 1; j++) {
                        long part = sets(all, due, own, j);
                        long g = divisor(part, whole);
                        Check.fraction("at least " + j + " of " + own + ", " + due + " of " + all, x, x.atLeast(0, 0, j), part / g, whole / g);
                    }
                    if (own > 0) {
                        // Of the second year, too, nothing is due but what one coin more brings.
                        long gone = x.row(0, 1, 2) + x.row(0, 2, 2);
                        long none = whole(all, (int) gone) - sets(all, (int) gone, own, 1);
                        long g = divisor(none, whole(all, (int) gone));
                        Check.fraction("lasting", x, x.lasting(0, 0), none / g, whole(all, (int) gone) / g);
                    }
                }
            }
        }
    }

    private static long whole(int all, int due) {
        return sets(all, due, 0, 0);
    }

    private static void atLeastEdges() {
        DrawnBonds x = Check.house("loan a bonds 60 par 10 coupon 0 years 2 even;holder h cash 0;holder g cash 0;holds h a 1 30;");
        Check.fraction("30 of 60", x, x.atLeast(0, 0, 30), 1, 118264581564861424L);
        Check.fraction("31 of 60", x, x.atLeast(0, 0, 31), 0, 1);
        Check.fraction("60", x, x.atLeast(0, 0, 60), 0, 1);
        Check.fraction("lasting", x, x.lasting(0, 0), 1, 118264581564861424L);
        Check.fraction("61", x, x.atLeast(0, 0, 61), -1, 118264581564861424L);
        Check.due("-1", x.atLeast(0, 0, -1), -1);
        Check.due("holder 2", x.atLeast(2, 0, 0), -1);
        Check.due("nobody", x.atLeast(-1, 0, 0), -1);
        Check.due("loan 1", x.atLeast(0, 1, 0), -1);
        Check.due("loan -1", x.atLeast(0, -1, 0), -1);
        Check.fraction("none of its own, 0", x, x.atLeast(1, 0, 0), 1, 1);
        Check.fraction("none of its own, 1", x, x.atLeast(1, 0, 1), 0, 1);
        x.year();
        int own = x.held(0, 0, 0);
        Check.fraction("all, in the last year", x, x.atLeast(0, 0, own), 1, 1);
        Check.fraction("one more", x, x.atLeast(0, 0, own + 1), 0, 1);
        x.year();
        Check.due("its years are over", x.atLeast(0, 0, 0), -1);
        DrawnBonds s = Check.house("loan a bonds 2 par 10 coupon 0 years 3 sink 20;holder h cash 0;holds h a 1 2;");
        s.year();
        Check.fraction("none STAND, 0", s, s.atLeast(0, 0, 0), 1, 1);
        Check.fraction("none STAND, 1", s, s.atLeast(0, 0, 1), 0, 1);
        Check.due("lasting: none STANDS", s.lasting(0, 0), -1);
    }

    private static void lasting() {
        DrawnBonds x = Check.house("loan a bonds 6 par 10 coupon 0 years 3 even;holder h cash 0;holder g cash 0;holds h a 1 2;");
        // 4 of 6 go ahead of the last year: 2 of 6 last, one set of 15.
        Check.fraction("two of six", x, x.lasting(0, 0), 1, 15);
        Check.due("none of its own", x.lasting(1, 0), -1);
        Check.due("holder 2", x.lasting(2, 0), -1);
        Check.due("nobody", x.lasting(-1, 0), -1);
        Check.due("loan 1", x.lasting(0, 1), -1);
        Check.due("loan -1", x.lasting(0, -1), -1);
        Check.due("below stays", x.below(), 15);
        x.wheel(0, 1);
        Check.years(x, 1);
        // 2 and 6 were drawn: 1 is left of its own, 2 of 4 go.
        Check.fraction("one of four", x, x.lasting(0, 0), 1, 2);
        Check.years(x, 1);
        if (x.held(0, 0, 0) == 1) {
            Check.fraction("the last year is the next", x, x.lasting(0, 0), 1, 1);
        } else {
            Check.due("none STANDS", x.lasting(0, 0), -1);
        }
        Check.years(x, 1);
        Check.due("its years are over", x.lasting(0, 0), -1);
        DrawnBonds e = Check.house("loan a bonds 6 par 10 coupon 0 years 3 end;holder h cash 0;holds h a 1 6;");
        Check.fraction("end", e, e.lasting(0, 0), 1, 1);
    }

    private static void below() {
        DrawnBonds x = Check.house(EVEN);
        Check.due("at first", x.below(), 1);
        x.odds(0, 1);
        Check.due("of odds", x.below(), 3);
        x.row(0, 1, 2);
        x.toPay(0);
        x.half(0);
        x.ifPrice(0, 1, 5, 1);
        x.unlucky(-1);
        Check.due("stays", x.below(), 3);
        Check.read(x, EVEN);
        Check.due("stays behind a TEXT", x.below(), 3);
    }

    private static void ifPrice() {
        DrawnBonds x = Check.house(SINK);
        Check.due("110 by 20", x.ifPrice(0, 1, 20, 1), 0);
        Check.due("110 by 40", x.ifPrice(0, 1, 40, 1), 2);
        // 30 left, 130 more, 160 by 50.
        Check.due("110 by 40, a year on", x.ifPrice(0, 1, 40, 2), 0);
        Check.due("999 is par", x.ifPrice(0, 1, 999, 1), 3);
        Check.due("as it is", x.ifPrice(0, 2, 50, 2), 1);
        // 130 by 100 in 2, then 30 and 130 by 100.
        Check.due("par in 2", x.ifPrice(0, 2, 100, 3), 1);
        Check.due("the last year", x.ifPrice(0, 4, 1, 4), 0);
        Check.due("price 0", x.ifPrice(0, 2, 0, 2), -1);
        Check.due("price 1000", x.ifPrice(0, 2, 1000, 2), -1);
        Check.due("an earlier YEAR", x.ifPrice(0, 2, 50, 1), -1);
        Check.due("then 5", x.ifPrice(0, 2, 50, 5), -1);
        Check.due("year 0", x.ifPrice(0, 0, 50, 2), -1);
        Check.due("year 5", x.ifPrice(0, 5, 50, 5), -1);
        Check.due("loan 1", x.ifPrice(1, 2, 50, 2), -1);
        Check.due("loan -1", x.ifPrice(-1, 2, 50, 2), -1);
        Check.due("in thought alone", x.price(0, 1), 100);
        Check.due("nothing is done", x.count(8), 0);
        x.year();
        Check.due("a year that passed", x.ifPrice(0, 1, 50, 2), -1);
        DrawnBonds e = Check.house(EVEN);
        Check.due("even hangs on no price", e.ifPrice(0, 1, 1, 1), 4);
    }

    private static void needs() {
        DrawnBonds x = Check.house(SINK + "loan e bonds 3 par 5 coupon 0 years 2 even;loan n bonds 3 par 5 coupon 0 years 2 end;");
        Check.due("1", x.needs(0, 1), 290);
        Check.due("2", x.needs(0, 2), 20);
        Check.due("3", x.needs(0, 3), 0);
        Check.due("4", x.needs(0, 4), 0);
        Check.due("0", x.needs(0, 0), -1);
        Check.due("5", x.needs(0, 5), -1);
        Check.due("even", x.needs(1, 1), -1);
        Check.due("end", x.needs(2, 1), -1);
        Check.due("loan 3", x.needs(3, 1), -1);
        Check.due("loan -1", x.needs(-1, 1), -1);
        x.put(0, 100);
        Check.due("less with a FUND", x.needs(0, 1), 190);
        Check.due("in thought alone", Check.loan(x, 0, 8), 100);
        x.year();
        Check.due("a year that passed", x.needs(0, 1), -1);
        DrawnBonds most = Check.house("loan b bonds 60 par 999 coupon 99 years 3 sink 1;");
        Check.due("60 times 999", most.needs(0, 1), 59940);
        // With less than all interest is above the sum: two years' DUE come from what is put by.
        Check.due("no less in two years", most.needs(0, 2), 59940);
        Check.due("the last year needs none", most.needs(0, 3), 0);
    }

    private static void needsIsNotEven() {
        // 18 wait for the cheap year; 99 are spent on one BOND in the dear one.
        DrawnBonds x = Check.house("loan b bonds 2 par 100 coupon 0 years 3 sink 1;price b 2 10;");
        Check.due("18", x.needs(0, 2), 18);
        x.put(0, 98);
        Check.due("98 do too", x.needs(0, 2), 0);
        x.put(0, 1);
        Check.due("99 don't: 9 more", x.needs(0, 2), 9);
    }
}
