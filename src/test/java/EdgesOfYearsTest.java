/** "Terms", part 2: a test for each sentence that names a boundary case. */
public final class EdgesOfYearsTest {
    private static final int MOST_CASH = 1_000_000_000;

    public static void main(String[] args) throws ReflectiveOperationException {
        standsAtFirst();
        owedPaidBoughtLapsed();
        retiredAreAllOthers();
        priceAsTold();
        wheelAtFirst();
        fundAtFirst();
        sixtyYears();
        notAboveItsYears();
        interestOfThoseThatStand();
        interestToNobody();
        interestOfNothing();
        costBelowPar();
        costInTheLastYear();
        costOfEnd();
        costOfParOne();
        dueInTheLastYear();
        dueEven();
        dueEvenOfFew();
        dueSinkDownwards();
        dueNotMoreThanStand();
        fundIsLess();
        fundMoreBySumLessInterest();
        fundByNothing();
        fundHasInterestOfThisYear();
        fundStaysInTheLast();
        dueEnd();
        wheelModulus();
        wheelTurnsForEachOne();
        placeModulo();
        placeOfThoseThatStand();
        prizeOfRank();
        prizeAboveNine();
        noPrizeForBought();
        oneForAllYears();
        boughtAtOnce();
        boughtOfNobody();
        lapseOne();
        lapseMost();
        lapseOfAWholeYear();
        lapseBehindItsYears();
        lapseOfOwedAlone();
        lapsedIsLost();
        cashFromInterest();
        cashFromBought();
        cashFromClaims();
        cashFromSales();
        cashOfAll();
        Check.end();
    }

    private static long turned(long wheel) {
        return wheel * 48271 % 2147483647;
    }

    // ---- a BOND, a LOAN at first

    private static void standsAtFirst() {
        Check.about("Part 2: a BOND STANDS at first, of a HOLDER or of nobody");
        DrawnBonds x = Check.house("loan a bonds 3 par 10 coupon 1 years 3 even;holder h cash 0;holder g cash 0;holds g a 2 2;");
        for (int n = 1; n <= 3; n++) {
            long[] want = {0, n == 2 ? 1 : -1, 0, 0, 0};
            for (int what = 0; what <= 4; what++) {
                Check.due("bond " + n + " " + what, x.bond(0, n, what), want[what]);
            }
        }
        Check.due("YEAR is 0 at first", x.count(2), 0);
    }

    private static void owedPaidBoughtLapsed() {
        Check.about("Part 2: OWED when it was DRAWN, PAID when that was claimed, BOUGHT, or LAPSED");
        DrawnBonds x = Check.house("loan a bonds 4 par 10 coupon 0 years 4 even lapse 1;holder h cash 0;holds h a 1 4;price a 2 9;");
        x.year();
        int first = x.lot(0, 1, 1);
        Check.due("DRAWN", x.bond(0, first, 0), 1);
        x.claim(0, 0);
        Check.due("claimed", x.bond(0, first, 0), 2);
        x.year();
        Check.due("BOUGHT", x.bond(0, x.lot(0, 2, 1), 0), 3);
        x.year();
        Check.due("DRAWN", x.bond(0, x.lot(0, 3, 1), 0), 1);
        x.year();
        Check.due("LAPSED", x.bond(0, x.lot(0, 3, 1), 0), 4);
        Check.due("DRAWN in the last", x.bond(0, x.lot(0, 4, 1), 0), 1);
    }

    private static void retiredAreAllOthers() {
        Check.about("Part 2: RETIRED: all but those that STAND");
        DrawnBonds x = Check.house("loan a bonds 8 par 10 coupon 0 years 4 even lapse 1;holder h cash 0;holder g cash 0;price a 2 9;");
        Check.years(x, 2);
        // Two LAPSED and two BOUGHT are RETIRED: of eight six should be so behind the third year.
        Check.due("LAPSED", x.count(7), 2);
        Check.due("BOUGHT", x.count(6), 2);
        Check.due("year 3", x.year(), 2);
        Check.due("year 4", x.year(), 2);
    }

    private static void priceAsTold() {
        Check.about("Part 2: PRICE of a YEAR of a LOAN: as told, par without");
        DrawnBonds x = Check.house("loan a bonds 3 par 100 coupon 1 years 3 even;loan b bonds 3 par 7 coupon 1 years 3 even;price a 2 100;price a 3 999;price b 1 8;");
        int[][] want = {{100, 100, 999}, {8, 7, 7}};
        for (int l = 0; l < 2; l++) {
            for (int y = 1; y <= 3; y++) {
                Check.due("price " + l + " " + y, x.price(l, y), want[l][y - 1]);
            }
        }
    }

    private static void wheelAtFirst() {
        Check.about("Part 2: a WHEEL (its number and 1 at first)");
        String t = "";
        for (int l = 0; l < 4; l++) {
            t += "loan " + (char) ('a' + l) + " bonds 3 par 100 coupon 1 years 3 even;";
        }
        DrawnBonds x = Check.house(t);
        for (int l = 0; l < 4; l++) {
            Check.due("WHEEL of " + l, Check.loan(x, l, 7), l + 1);
        }
    }

    private static void fundAtFirst() {
        Check.about("Part 2: a FUND (0 at first)");
        DrawnBonds x = Check.house("loan a bonds 3 par 100 coupon 1 years 3 sink 77;loan b bonds 3 par 100 coupon 1 years 3 even;");
        Check.due("of sink", Check.loan(x, 0, 8), 0);
        Check.due("of even", Check.loan(x, 1, 8), 0);
    }

    // ---- a YEAR passes

    private static void sixtyYears() {
        Check.about("Part 2: a YEAR passes (60 at most)");
        DrawnBonds x = Check.house("loan a bonds 2 par 10 coupon 1 years 20 end lapse 20;holder h cash 0;holds h a 1 2;");
        for (int y = 1; y <= 60; y++) {
            Check.due("year " + y, x.year(), y == 20 ? 2 : 0);
            Check.due("YEAR is one more", x.count(2), y);
        }
        Check.unchanged(x, "year 61", () -> {
            Check.due("year 61", x.year(), -1);
            Check.due("again", x.year(), -1);
        });
    }

    private static void notAboveItsYears() {
        Check.about("Part 2: if YEAR is not above its years");
        DrawnBonds x = Check.house("loan a bonds 2 par 10 coupon 3 years 1 end;loan b bonds 2 par 10 coupon 4 years 2 end;holder h cash 0;holds h a 1 2;holds h b 1 2;");
        Check.due("year 1", x.year(), 2);
        Check.due("both pay", x.cash(0), 6 + 8);
        Check.due("year 2", x.year(), 2);
        Check.due("the second alone", x.cash(0), 6 + 8 + 8);
        long wheel = Check.loan(x, 1, 7);
        Check.due("year 3", x.year(), 0);
        Check.due("none", x.cash(0), 6 + 8 + 8);
        Check.due("no WHEEL turns", Check.loan(x, 1, 7), wheel);
    }

    private static void interestOfThoseThatStand() {
        Check.about("Part 2: INTEREST: its coupon for each BOND that STANDS, to the cash of its HOLDER");
        DrawnBonds x = Check.house("loan a bonds 4 par 10 coupon 99 years 2 even;holder h cash 1;holder g cash 2;holds h a 1 3;holds g a 4 4;");
        x.year();
        // Those that are drawn in this YEAR stood when it began.
        Check.due("h", x.cash(0), 1 + 3 * 99);
        Check.due("g", x.cash(1), 2 + 99);
        int h = x.held(0, 0, 0);
        int g = x.held(1, 0, 0);
        Check.due("two are left", h + g, 2);
        x.year();
        Check.due("h in 2", x.cash(0), 1 + (3 + h) * 99);
        Check.due("g in 2", x.cash(1), 2 + (1 + g) * 99);
    }

    private static void interestToNobody() {
        Check.about("Part 2: to nobody's without one");
        DrawnBonds x = Check.house("loan a bonds 4 par 10 coupon 9 years 2 end;holder h cash 1;holds h a 2 2;");
        x.year();
        Check.due("cash", x.cash(0), 1 + 9);
        Check.due("paid", x.paid(0, 0), 4 * 9);
        Check.due("it GOT its coupon", x.bond(0, 1, 4), 9);
    }

    private static void interestOfNothing() {
        Check.about("Part 2: a coupon of 0");
        DrawnBonds x = Check.house("loan a bonds 4 par 10 coupon 0 years 2 end;holder h cash 1;holds h a 1 4;");
        x.year();
        Check.due("cash", x.cash(0), 1);
        Check.due("paid", x.paid(0, 0), 0);
        Check.due("GOT", x.bond(0, 1, 4), 0);
    }

    // ---- COST

    private static void costBelowPar() {
        Check.about("Part 2: COST: PRICE, if that is below par: BOUGHT; else par: DRAWN");
        int[][] of = {{1, 1, 1}, {98, 98, 1}, {99, 99, 1}, {100, 100, 0}, {101, 100, 0}, {999, 100, 0}};
        for (int[] one : of) {
            DrawnBonds x = Check.house("loan a bonds 4 par 100 coupon 0 years 4 even;holder h cash 0;holds h a 1 4;price a 1 " + one[0] + ";");
            Check.due("COST at " + one[0], x.row(0, 1, 3), one[1]);
            Check.due("BOUGHT at " + one[0], x.row(0, 1, 4), one[2]);
            x.year();
            Check.due("BOUGHT", x.count(6), one[2]);
            Check.due("OWED", x.count(4), 1 - one[2]);
            Check.due("cash", x.cash(0), one[2] == 1 ? one[1] : 0);
            Check.due("owed", x.paid(0, 4), one[2] == 1 ? 0 : 100);
        }
    }

    private static void costInTheLastYear() {
        Check.about("Part 2: COST: .. the YEAR is not the last of its years");
        for (String plan : new String[] {"even", "sink 300"}) {
            DrawnBonds x = Check.house("loan a bonds 4 par 100 coupon 0 years 2 " + plan + ";holder h cash 0;holds h a 1 4;price a 1 99;price a 2 99;");
            Check.due("ahead of the last", x.row(0, 1, 4), 1);
            Check.due("the last", x.row(0, 2, 4), 0);
            Check.due("its COST", x.row(0, 2, 3), 100);
            int bought = x.year();
            Check.due("BOUGHT", x.count(6), bought);
            int drawn = x.year();
            Check.due("DRAWN", x.count(4), drawn);
            Check.due("at par", x.paid(0, 4), drawn * 100);
            DrawnBonds one = Check.house("loan a bonds 4 par 100 coupon 0 years 1 " + plan + ";price a 1 1;");
            one.year();
            Check.due("the first is the last", one.count(4), 4);
        }
    }

    private static void costOfEnd() {
        Check.about("Part 2: COST: .. and PLAN is not end");
        DrawnBonds x = Check.house("loan a bonds 4 par 100 coupon 0 years 2 end;price a 1 1;price a 2 1;");
        for (int y = 1; y <= 2; y++) {
            Check.due("COST in " + y, x.row(0, y, 3), 100);
            Check.due("BOUGHT in " + y, x.row(0, y, 4), 0);
        }
        Check.years(x, 2);
        Check.due("BOUGHT", x.count(6), 0);
        Check.due("owed", x.paid(0, 4), 400);
    }

    private static void costOfParOne() {
        Check.about("Part 2: no PRICE is below a par of 1");
        DrawnBonds x = Check.house("loan a bonds 4 par 1 coupon 0 years 2 even;price a 1 1;loan b bonds 4 par 2 coupon 0 years 2 even;price b 1 1;");
        x.year();
        Check.due("DRAWN", x.count(4), 2);
        Check.due("BOUGHT, of par 2", x.count(6), 2);
        Check.due("for 1", x.paid(1, 2), 2);
    }

    // ---- DUE

    private static void dueInTheLastYear() {
        Check.about("Part 2: DUE: in the last of its years all that STAND");
        for (String plan : new String[] {"even", "end", "sink 1", "sink 99999"}) {
            DrawnBonds x = Check.house("loan a bonds 60 par 999 coupon 0 years 1 " + plan + ";");
            Check.due(plan, x.row(0, 1, 2), 60);
            Check.due(plan, x.year(), 60);
            DrawnBonds none = Check.house("loan a bonds 3 par 1 coupon 0 years 2 " + plan + ";");
            int gone = none.year();
            Check.due(plan + ": what is left", none.year(), 3 - gone);
            Check.due("none STAND", none.count(3), 0);
        }
    }

    private static void dueEven() {
        Check.about("Part 2: even: BONDS times YEAR by years, downwards, less those RETIRED so far");
        for (int[] of : new int[][] {{7, 3}, {60, 20}, {59, 20}, {20, 20}, {60, 7}, {6, 6}}) {
            DrawnBonds x = Check.house("loan a bonds " + of[0] + " par 1 coupon 0 years " + of[1] + " even;");
            for (int y = 1; y <= of[1]; y++) {
                int want = of[0] * y / of[1] - of[0] * (y - 1) / of[1];
                Check.due(of[0] + " by " + of[1] + ", year " + y, x.year(), want);
            }
            Check.due("none STAND", x.count(3), 0);
        }
    }

    private static void dueEvenOfFew() {
        Check.about("Part 2: even, downwards: fewer BONDS than years");
        DrawnBonds one = Check.house("loan a bonds 1 par 1 coupon 0 years 20 even;");
        for (int y = 1; y <= 20; y++) {
            Check.due("1 by 20, year " + y, one.year(), y == 20 ? 1 : 0);
        }
        DrawnBonds two = Check.house("loan a bonds 2 par 1 coupon 0 years 3 even;");
        Check.due("2 by 3, year 1", two.year(), 0);
        Check.due("2 by 3, year 2", two.year(), 1);
        Check.due("2 by 3, year 3", two.year(), 1);
    }

    private static DrawnBonds sink(int sum, int more) {
        DrawnBonds x = Check.house("loan a bonds 5 par 100 coupon 0 years 3 sink " + sum + ";");
        if (more > 0) {
            x.put(0, more);
        }
        return x;
    }

    private static void dueSinkDownwards() {
        Check.about("Part 2: sink: DUE is FUND by COST, downwards");
        int[][] of = {{1, 0}, {99, 0}, {100, 1}, {101, 1}, {199, 1}, {200, 2}, {499, 4}, {500, 5}};
        for (int[] one : of) {
            Check.due("DUE with " + one[0], sink(one[0], 0).year(), one[1]);
            Check.due("DUE with one and " + (one[0] - 1) + " put by", sink(1, one[0] - 1).year(), one[1]);
        }
        DrawnBonds cheap = Check.house("loan a bonds 5 par 100 coupon 0 years 3 sink 99;price a 1 50;price a 2 49;");
        Check.due("99 by 50", cheap.year(), 1);
        Check.due("49 and 99 by 49", cheap.year(), 3);
    }

    private static void dueNotMoreThanStand() {
        Check.about("Part 2: sink: DUE .. not more than STAND");
        DrawnBonds x = sink(99999, 0);
        Check.due("DUE", x.year(), 5);
        Check.due("FUND", Check.loan(x, 0, 8), 99999 - 500);
        Check.due("DUE of none", x.year(), 0);
        Check.due("FUND goes on", Check.loan(x, 0, 8), 2 * 99999 - 500);
        DrawnBonds just = sink(600, 0);
        Check.due("one more would be due", just.year(), 5);
        Check.due("FUND", Check.loan(just, 0, 8), 100);
    }

    private static void fundIsLess() {
        Check.about("Part 2: sink: the FUND is less by DUE times COST");
        int[][] of = {{99, 99}, {100, 0}, {199, 99}, {500, 0}, {501, 1}};
        for (int[] one : of) {
            DrawnBonds x = sink(one[0], 0);
            x.year();
            Check.due("FUND behind " + one[0], Check.loan(x, 0, 8), one[1]);
        }
        DrawnBonds cheap = Check.house("loan a bonds 5 par 100 coupon 0 years 3 sink 120;price a 1 50;");
        cheap.year();
        Check.due("by the PRICE for which they are BOUGHT", Check.loan(cheap, 0, 8), 20);
    }

    private static long fundBehind(int sum) {
        DrawnBonds x = Check.house("loan a bonds 5 par 999 coupon 20 years 3 sink " + sum + ";");
        x.year();
        return Check.loan(x, 0, 8);
    }

    private static void fundMoreBySumLessInterest() {
        Check.about("Part 2: sink: the FUND is more by the sum told less all INTEREST of this YEAR");
        Check.due("101 less 100", fundBehind(101), 1);
        Check.due("900 less 100", fundBehind(900), 800);
        Check.due("1098 less 100", fundBehind(1098), 998);
        Check.due("1099 less 100: one is due", fundBehind(1099), 0);
    }

    private static void fundByNothing() {
        Check.about("Part 2: sink: by nothing, if that is below 0");
        Check.due("100 less 100", fundBehind(100), 0);
        Check.due("99 less 100", fundBehind(99), 0);
        Check.due("1 less 100", fundBehind(1), 0);
        DrawnBonds x = Check.house("loan a bonds 60 par 999 coupon 99 years 3 sink 1;");
        x.put(0, 998);
        x.year();
        Check.due("what is put by stays", Check.loan(x, 0, 8), 998);
    }

    private static void fundHasInterestOfThisYear() {
        Check.about("Part 2: sink: INTEREST of this YEAR is that of those that STAND when it begins");
        // 4 stand: 140 less 40, one is drawn; 3 stand: 140 less 30, one, 10 left; 2 stand: 140 less 20 and 10.
        DrawnBonds x = Check.house("loan a bonds 4 par 100 coupon 10 years 9 sink 140;");
        int[] fund = {0, 10, 30, 60};
        for (int y = 1; y <= 4; y++) {
            Check.due("DUE in " + y, x.year(), 1);
            Check.due("FUND behind " + y, Check.loan(x, 0, 8), fund[y - 1]);
        }
    }

    private static void fundStaysInTheLast() {
        Check.about("Part 2: in the last one the FUND stays");
        DrawnBonds x = sink(50, 7);
        Check.years(x, 1);
        Check.due("ahead", x.put(0, 1), 58);
        Check.years(x, 1);
        Check.due("ahead of the last", Check.loan(x, 0, 8), 8);
        Check.due("row", x.row(0, 3, 5), 8);
        x.put(0, 1000);
        x.year();
        Check.due("behind it", Check.loan(x, 0, 8), 1008);
        x.year();
        Check.due("a year later", Check.loan(x, 0, 8), 1008);
    }

    private static void dueEnd() {
        Check.about("Part 2: end: none");
        DrawnBonds x = Check.house("loan a bonds 60 par 1 coupon 0 years 20 end;");
        for (int y = 1; y <= 20; y++) {
            Check.due("year " + y, x.year(), y < 20 ? 0 : 60);
        }
        Check.due("FUND", Check.loan(x, 0, 8), 0);
    }

    // ---- the LOT

    private static void wheelModulus() {
        Check.about("Part 2: the WHEEL x is 48271 x modulo 2147483647 then");
        // 44488 is the last one that does not wrap around.
        long[][] of = {{1, 48271}, {2, 96542}, {44488, 2147480248}, {44489, 44872}, {2147483645, 2147483647 - 2 * 48271L},
            {2147483646, 2147483647 - 48271L}, {1073741824, turned(1073741824)}, {1899818559, turned(1899818559)}};
        for (long[] one : of) {
            DrawnBonds x = Check.house("loan a bonds 1 par 1 coupon 0 years 1 end;");
            x.wheel(0, (int) one[0]);
            x.year();
            Check.due("WHEEL behind " + one[0], Check.loan(x, 0, 7), one[1]);
        }
    }

    private static void wheelTurnsForEachOne() {
        Check.about("Part 2: the LOT, DUE times: the WHEEL turns");
        DrawnBonds x = Check.house("loan a bonds 60 par 1 coupon 0 years 2 end;loan b bonds 60 par 1 coupon 0 years 2 even;");
        x.year();
        Check.due("not at all with DUE 0", Check.loan(x, 0, 7), 1);
        long wheel = 2;
        for (int k = 0; k < 30; k++) {
            wheel = turned(wheel);
        }
        Check.due("thirty times", Check.loan(x, 1, 7), wheel);
    }

    private static void placeModulo() {
        Check.about("Part 2: that which has place x modulo how many they are (from 0)");
        for (int many = 1; many <= 7; many++) {
            boolean[] seen = new boolean[many];
            for (int wheel = 1; wheel <= 60; wheel++) {
                DrawnBonds x = Check.house("loan a bonds " + many + " par 1 coupon 0 years 1 end;");
                x.wheel(0, wheel);
                x.year();
                int place = (int) (turned(wheel) % many);
                seen[place] = true;
                Check.due("the first of " + many + " by " + wheel, x.lot(0, 1, 1), place + 1);
            }
            Check.due("the first place was met", seen[0], true);
            Check.due("the last place was met", seen[many - 1], true);
        }
    }

    private static void placeOfThoseThatStand() {
        Check.about("Part 2: of the BONDS that STAND, by numbers");
        DrawnBonds x = Check.house("loan a bonds 6 par 1 coupon 0 years 3 even;");
        x.year();
        // 48271 by 6 leaves 1, so 2 goes; 182605794 by 5 leaves 4: of 1 3 4 5 6 that is 6.
        Check.due("first", x.lot(0, 1, 1), 2);
        Check.due("second", x.lot(0, 1, 2), 6);
        x.wheel(0, 4);
        x.year();
        // 193084 by 4 leaves 0: of 1 3 4 5 that is 1; then 730423176 by 3 leaves 0: of 3 4 5 that is 3.
        Check.due("third", x.lot(0, 2, 1), 1);
        Check.due("fourth", x.lot(0, 2, 2), 3);
    }

    private static void prizeOfRank() {
        Check.about("Part 2: OWED par and, the k-th of this LOT, the prize with RANK k, if there is one");
        DrawnBonds x = Check.house("loan a bonds 6 par 10 coupon 0 years 2 even;holder h cash 0;holds h a 1 6;prize a 1 500;prize a 3 7;prize a 4 9000;");
        x.year();
        Check.due("three are due", x.lot(0, 1, 0), 3);
        Check.due("owed", x.paid(0, 4), 30 + 500 + 7);
        x.claim(0, 0);
        Check.due("first", x.bond(0, x.lot(0, 1, 1), 4), 510);
        Check.due("second", x.bond(0, x.lot(0, 1, 2), 4), 10);
        Check.due("third", x.bond(0, x.lot(0, 1, 3), 4), 17);
        x.year();
        Check.due("each LOT has a first one", x.paid(0, 4), 30 + 500 + 7);
    }

    private static void prizeAboveNine() {
        Check.about("Part 2: a prize for the ninth; the tenth has none");
        DrawnBonds x = Check.house("loan a bonds 11 par 10 coupon 0 years 1 end;holder h cash 0;holds h a 1 11;prize a 9 500;");
        x.year();
        x.claim(0, 0);
        for (int k = 1; k <= 11; k++) {
            Check.due("the one with place " + k, x.bond(0, x.lot(0, 1, k), 4), k == 9 ? 510 : 10);
        }
        DrawnBonds eight = Check.house("loan a bonds 8 par 10 coupon 0 years 1 end;prize a 9 500;prize a 8 3;");
        eight.year();
        Check.due("of eight none is ninth", eight.paid(0, 4), 83);
    }

    private static void noPrizeForBought() {
        Check.about("Part 2: prizes are for those that are DRAWN");
        DrawnBonds x = Check.house("loan a bonds 4 par 10 coupon 0 years 2 even;holder h cash 0;holds h a 1 4;prize a 1 500;price a 1 9;");
        x.year();
        Check.due("cash", x.cash(0), 18);
        Check.due("nothing is owed", x.paid(0, 4), 0);
        Check.due("for BOUGHT ones", x.paid(0, 2), 18);
    }

    private static void oneForAllYears() {
        Check.about("Part 2: a year retires what all LOANS have due together");
        DrawnBonds x = Check.house("loan a bonds 60 par 1 coupon 0 years 1 end;loan b bonds 60 par 1 coupon 0 years 1 even;loan c bonds 60 par 1 coupon 0 years 1 sink 1;loan d bonds 60 par 1 coupon 0 years 2 even;");
        Check.due("year 1", x.year(), 210);
        Check.due("year 2", x.year(), 30);
    }

    private static void boughtAtOnce() {
        Check.about("Part 2: one that is BOUGHT brings COST to the cash of its HOLDER at once");
        DrawnBonds x = Check.house("loan a bonds 4 par 10 coupon 0 years 2 even;holder h cash 5;holds h a 1 4;price a 1 9;");
        x.year();
        Check.due("cash", x.cash(0), 5 + 18);
        Check.due("nothing to claim", x.claim(0, 0), 0);
        Check.due("it GOT that", x.bond(0, x.lot(0, 1, 1), 4), 9);
    }

    private static void boughtOfNobody() {
        Check.about("Part 2: one of nobody's that is BOUGHT brings nobody cash");
        DrawnBonds x = Check.house("loan a bonds 4 par 10 coupon 0 years 2 even;holder h cash 5;price a 1 9;");
        x.year();
        Check.due("cash", x.cash(0), 5);
        Check.due("paid", x.paid(0, 2), 18);
        Check.due("it GOT that", x.bond(0, x.lot(0, 1, 1), 4), 9);
    }

    // ---- lapse

    private static DrawnBonds lapsing(String lapse) {
        DrawnBonds x = Check.house("loan a bonds 2 par 10 coupon 0 years 1 end" + lapse + ";holder h cash 0;holds h a 1 2;");
        x.year();
        return x;
    }

    private static void lapseOne() {
        Check.about("Part 2: OWED, DRAWN as many YEARS ago as lapse tells or more, is LAPSED: 1");
        DrawnBonds x = lapsing(" lapse 1");
        Check.due("in the YEAR itself it is OWED", x.count(4), 2);
        x.year();
        Check.due("a YEAR later it is LAPSED", x.count(7), 2);
        DrawnBonds in = lapsing(" lapse 1");
        Check.due("claimed in time", in.claim(0, 0), 20);
    }

    private static void lapseMost() {
        Check.about("Part 2: OWED, DRAWN as many YEARS ago as lapse tells or more, is LAPSED: 19, 20, none told");
        String[] of = {" lapse 19", " lapse 20", ""};
        int[] ago = {19, 20, 20};
        for (int k = 0; k < 3; k++) {
            DrawnBonds x = lapsing(of[k]);
            Check.years(x, ago[k] - 1);
            Check.due("a YEAR ahead of that" + of[k], x.count(4), 2);
            x.year();
            Check.due("then" + of[k], x.count(7), 2);
            Check.due("none is OWED", x.count(4), 0);
            DrawnBonds in = lapsing(of[k]);
            Check.years(in, ago[k] - 1);
            Check.due("claimed in time" + of[k], in.claim(0, 0), 20);
        }
    }

    private static void lapseOfAWholeYear() {
        Check.about("Part 2: lapse counts from the YEAR in which each was DRAWN");
        DrawnBonds x = Check.house("loan a bonds 4 par 10 coupon 0 years 4 even lapse 2;");
        int[] lapsed = {0, 0, 1, 2, 3, 4, 4};
        for (int y = 1; y <= 7; y++) {
            x.year();
            Check.due("LAPSED in " + y, x.count(7), lapsed[y - 1]);
            Check.due("OWED in " + y, x.count(4), Math.min(4, y) - lapsed[y - 1]);
        }
    }

    private static void lapseBehindItsYears() {
        Check.about("Part 2: behind all LOANS: those too whose years are over");
        DrawnBonds x = Check.house("loan a bonds 2 par 10 coupon 0 years 20 end;loan b bonds 2 par 10 coupon 0 years 1 end lapse 3;");
        Check.years(x, 3);
        Check.due("b is OWED", x.paid(1, 4), 20);
        Check.years(x, 1);
        Check.due("b is LAPSED", x.paid(1, 3), 20);
        Check.years(x, 35);
        Check.due("a is OWED in 39", x.paid(0, 4), 20);
        Check.years(x, 1);
        Check.due("a is LAPSED in 40", x.paid(0, 3), 20);
    }

    private static void lapseOfOwedAlone() {
        Check.about("Part 2: what is OWED lapses, not what is PAID, BOUGHT or STANDS");
        DrawnBonds x = Check.house("loan a bonds 4 par 10 coupon 0 years 4 even lapse 1;holder h cash 0;holds h a 1 4;price a 2 9;");
        x.year();
        x.claim(0, 0);
        Check.years(x, 2);
        Check.due("STANDS", x.count(3), 1);
        Check.due("OWED", x.count(4), 1);
        Check.due("PAID", x.count(5), 1);
        Check.due("BOUGHT", x.count(6), 1);
        Check.due("LAPSED", x.count(7), 0);
    }

    private static void lapsedIsLost() {
        Check.about("Part 2: LAPSED (nobody gets it any more)");
        DrawnBonds x = lapsing(" lapse 1");
        x.year();
        Check.unchanged(x, "claim of what LAPSED", () -> Check.due("claim", x.claim(0, 0), 0));
        Check.due("cash", x.cash(0), 0);
        Check.due("GOT", x.bond(0, 1, 4), 0);
    }

    // ---- CASH; no TEXT and no 512 calls come near its bound, so it is laid into the object by hand

    private static void layCash(DrawnBonds x, int holder, int sum) throws ReflectiveOperationException {
        Check.inside(x, "now", "cash")[holder] = sum;
    }

    private static void cashFromInterest() throws ReflectiveOperationException {
        Check.about("Part 2: CASH is 1,000,000,000 at most: INTEREST");
        for (int less : new int[] {5, 4, 0}) {
            DrawnBonds x = Check.house("loan a bonds 1 par 10 coupon 5 years 2 end;holder h cash 0;holds h a 1 1;");
            layCash(x, 0, MOST_CASH - less);
            x.year();
            Check.due("with " + less + " less", x.cash(0), MOST_CASH);
            Check.due("it is paid all the same", x.paid(0, 0), 5);
        }
        DrawnBonds x = Check.house("loan a bonds 1 par 10 coupon 5 years 2 end;holder h cash 0;holds h a 1 1;");
        layCash(x, 0, MOST_CASH - 6);
        x.year();
        Check.due("just below", x.cash(0), MOST_CASH - 1);
    }

    private static void cashFromBought() throws ReflectiveOperationException {
        Check.about("Part 2: CASH is 1,000,000,000 at most: for BOUGHT ones");
        DrawnBonds x = Check.house("loan a bonds 2 par 10 coupon 0 years 2 even;holder h cash 0;holds h a 1 2;price a 1 9;");
        layCash(x, 0, MOST_CASH - 8);
        x.year();
        Check.due("cash", x.cash(0), MOST_CASH);
    }

    private static void cashFromClaims() throws ReflectiveOperationException {
        Check.about("Part 2: CASH is 1,000,000,000 at most (what goes beyond is lost): claims");
        DrawnBonds x = Check.house("loan a bonds 2 par 10 coupon 0 years 1 end;holder h cash 0;holds h a 1 2;");
        layCash(x, 0, MOST_CASH - 3);
        x.year();
        Check.due("claim tells all", x.claim(0, 0), 20);
        Check.due("cash", x.cash(0), MOST_CASH);
        Check.due("PAID", x.count(5), 2);
    }

    private static void cashFromSales() throws ReflectiveOperationException {
        Check.about("Part 2: CASH is 1,000,000,000 at most (what goes beyond is lost): sales");
        DrawnBonds x = Check.house("loan a bonds 2 par 10 coupon 0 years 1 end;holder h cash 0;holder g cash 50;holds h a 1 2;");
        layCash(x, 0, MOST_CASH - 3);
        Check.due("sell", x.sell(0, 1, 1, 50), true);
        Check.due("its own", x.cash(0), MOST_CASH);
        Check.due("the other one's", x.cash(1), 0);
    }

    private static void cashOfAll() {
        Check.about("Part 2: no cash is lost below that");
        DrawnBonds x = Check.house("loan a bonds 60 par 999 coupon 99 years 20 end;loan b bonds 60 par 999 coupon 99 years 20 end;"
                + "loan c bonds 60 par 999 coupon 99 years 20 end;loan d bonds 60 par 999 coupon 99 years 20 end;"
                + "holder h cash 99999;holds h a 1 60;holds h b 1 60;holds h c 1 60;holds h d 1 60;prize a 1 9999;");
        Check.years(x, 20);
        for (int l = 0; l < 4; l++) {
            x.claim(0, l);
        }
        Check.due("cash", x.cash(0), 99999 + 240 * (99 * 20 + 999) + 9999);
    }
}
