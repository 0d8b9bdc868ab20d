/** Promises 31 to 36, with what part 3 of "Terms" says of them: a test for each sentence that names a boundary case. */
public final class EdgesOfDrawnTest {
    /** 7 by 3: lots of 2, 2 and 3. */
    private static final String TEXT = "loan a bonds 7 par 100 coupon 5 years 3 even;loan e bonds 2 par 9 coupon 0 years 5 end;holder h cash 10;holder g cash 0;holds h a 1 4;holds g e 1 1;prize a 1 50;";

    public static void main(String[] args) {
        lotPlaces();
        lotHowMany();
        lotYears();
        lotOthers();
        replayedAsItWas();
        replayedRange();
        replayedUpToTheFirstThatIsnt();
        replayedOfNone();
        replayedOutOfThoseThatStoodThen();
        replayedOthers();
        lastOneByNumbers();
        lastOneHowMany();
        lastOneNotSoMany();
        lastOneNotOver();
        lastOneOfNone();
        meanOfAll();
        meanNone();
        meanOthers();
        unluckyGreatestFirst();
        unluckyLikeOnes();
        unluckyHowMany();
        unluckyOthers();
        paidOfEach();
        paidToNobody();
        paidOthers();
        paidMost();
        askingDoesNothing();
        Check.end();
    }

    private static long turned(long wheel) {
        return wheel * 48271 % 2147483647;
    }

    // ---- promise 31

    private static void lotPlaces() {
        Check.about("Promise 31: the k-th BOND (from 1) of the LOT");
        DrawnBonds x = Check.house(TEXT);
        Check.years(x, 3);
        int[] many = {2, 2, 3};
        boolean[] seen = new boolean[8];
        for (int y = 1; y <= 3; y++) {
            for (int k = 1; k <= many[y - 1]; k++) {
                int n = x.lot(0, y, k);
                Check.due("a BOND", n >= 1 && n <= 7, true);
                Check.due("each once", seen[n], false);
                seen[n] = true;
                Check.due("its place", x.bond(0, n, 3), k);
            }
            Check.due("one more in " + y, x.lot(0, y, many[y - 1] + 1), -1);
        }
        DrawnBonds most = Check.house("loan a bonds 60 par 1 coupon 0 years 1 end;");
        most.year();
        Check.due("the 60th", most.lot(0, 1, 60) >= 1, true);
        Check.due("the 61st", most.lot(0, 1, 61), -1);
    }

    private static void lotHowMany() {
        Check.about("Promise 31: how many (k 0)");
        DrawnBonds x = Check.house(TEXT);
        Check.years(x, 3);
        Check.due("1", x.lot(0, 1, 0), 2);
        Check.due("2", x.lot(0, 2, 0), 2);
        Check.due("3", x.lot(0, 3, 0), 3);
        Check.due("none are due of e", x.lot(1, 3, 0), 0);
        Check.due("so there is no first", x.lot(1, 3, 1), -1);
    }

    private static void lotYears() {
        Check.about("Promise 31: a YEAR that passed");
        DrawnBonds x = Check.house(TEXT);
        Check.due("0 in 0", x.lot(0, 0, 0), -1);
        Check.due("1 in 0", x.lot(0, 1, 0), -1);
        x.year();
        Check.due("0 in 1", x.lot(0, 0, 0), -1);
        Check.due("1 in 1", x.lot(0, 1, 0), 2);
        Check.due("2 in 1", x.lot(0, 2, 0), -1);
        Check.years(x, 3);
        Check.due("its last", x.lot(0, 3, 0), 3);
        Check.due("one that passed behind its years has no LOT", x.lot(0, 4, 0), -1);
        Check.due("but e had one then", x.lot(1, 4, 0), 0);
        x.undo();
        x.undo();
        Check.due("one that was taken back", x.lot(0, 3, 0), -1);
    }

    private static void lotOthers() {
        Check.about("Promise 31: NONE: others, none such");
        DrawnBonds x = Check.house(TEXT);
        Check.years(x, 1);
        for (int k : Check.outside(0, 2)) {
            Check.due("k " + k, x.lot(0, 1, k), -1);
        }
        for (int l : Check.outside(0, 1)) {
            Check.due("loan " + l, x.lot(l, 1, 0), -1);
        }
        for (int y : Check.outside(1, 1)) {
            Check.due("YEAR " + y, x.lot(0, y, 0), -1);
        }
    }

    // ---- promise 32

    private static void replayedAsItWas() {
        Check.about("Promise 32: 0: as it was");
        DrawnBonds x = Check.house(TEXT);
        x.wheel(0, 2147483646);
        x.year();
        x.wheel(0, 5);
        x.year();
        x.year();
        long third = turned(turned(5));
        Check.due("1", x.replayed(0, 1, 0), 2);
        Check.due("1, by its WHEEL", x.replayed(0, 1, 2147483646), 2);
        Check.due("2", x.replayed(0, 2, 0), 2);
        Check.due("2, by its WHEEL", x.replayed(0, 2, 5), 2);
        Check.due("3", x.replayed(0, 3, 0), 3);
        Check.due("3, by its WHEEL", x.replayed(0, 3, (int) third), 3);
    }

    private static void replayedRange() {
        Check.about("Promise 32: with a WHEEL (1 to 2147483646; 0: as it was)");
        DrawnBonds x = Check.house(TEXT);
        x.year();
        Check.due("-1", x.replayed(0, 1, -1), -1);
        Check.due("least", x.replayed(0, 1, Integer.MIN_VALUE), -1);
        Check.due("2147483647", x.replayed(0, 1, 2147483647), -1);
        Check.due("1", x.replayed(0, 1, 1), 2);
        // 2147435376 by 7 leaves 0: 1 goes first, not 7.
        Check.due("2147483646", x.replayed(0, 1, 2147483646), turned(2147483646) % 7 == 6 ? 1 : 0);
    }

    private static void replayedUpToTheFirstThatIsnt() {
        Check.about("Promise 32: how many, from its first one on, are the same, up to the first that isn't");
        boolean[] met = new boolean[3];
        for (int wheel = 1; wheel <= 100; wheel++) {
            DrawnBonds x = Check.house(TEXT);
            x.year();
            long one = turned(wheel);
            int same = one % 7 != turned(1) % 7 ? 0 : turned(one) % 6 != turned(turned(1)) % 6 ? 1 : 2;
            met[same] = true;
            Check.due("by " + wheel, x.replayed(0, 1, wheel), same);
        }
        Check.due("none, one and two were met", met[0] && met[1] && met[2], true);
    }

    private static void replayedOfNone() {
        Check.about("Promise 32: of a LOT of none, none");
        DrawnBonds x = Check.house(TEXT);
        x.year();
        Check.due("as it was", x.replayed(1, 1, 0), 0);
        Check.due("by another", x.replayed(1, 1, 99), 0);
        DrawnBonds gone = Check.house("loan s bonds 1 par 5 coupon 0 years 3 sink 5;");
        Check.years(gone, 3);
        Check.due("none stood", gone.replayed(0, 2, 7), 0);
        Check.due("in its last year", gone.replayed(0, 3, 0), 0);
        Check.due("one alone is drawn by each WHEEL", gone.replayed(0, 1, 12345), 1);
    }

    private static void replayedOutOfThoseThatStoodThen() {
        Check.about("Part 3: out of those that stood then");
        DrawnBonds x = Check.house(TEXT);
        Check.years(x, 1);
        Check.due("1 in 1", x.replayed(0, 1, 8), turned(8) % 7 == turned(1) % 7 && turned(turned(8)) % 6 == turned(turned(1)) % 6 ? 2 : 0);
        int[] by = new int[20];
        for (int wheel = 1; wheel < 20; wheel++) {
            by[wheel] = x.replayed(0, 1, wheel);
        }
        Check.years(x, 9);
        x.claim(0, 0);
        for (int wheel = 1; wheel < 20; wheel++) {
            Check.due("nine YEARS later, by " + wheel, x.replayed(0, 1, wheel), by[wheel]);
        }
    }

    private static void replayedOthers() {
        Check.about("Promise 32: NONE: others");
        DrawnBonds x = Check.house(TEXT);
        Check.due("a YEAR to come", x.replayed(0, 1, 0), -1);
        Check.years(x, 4);
        Check.due("0", x.replayed(0, 0, 0), -1);
        Check.due("behind its years", x.replayed(0, 4, 0), -1);
        Check.due("of e it is one", x.replayed(1, 4, 0), 0);
        Check.due("to come", x.replayed(1, 5, 0), -1);
        Check.due("least", x.replayed(0, Integer.MIN_VALUE, 0), -1);
        Check.due("most", x.replayed(0, Integer.MAX_VALUE, 0), -1);
        for (int l : Check.outside(0, 1)) {
            Check.due("loan " + l, x.replayed(l, 1, 0), -1);
        }
    }

    // ---- promise 33

    private static void lastOneByNumbers() {
        Check.about("Promise 33: the i-th BOND (from 0), by numbers, of those RETIRED in the last of a LOAN's years");
        DrawnBonds x = Check.house(TEXT);
        Check.years(x, 2);
        int[] left = new int[3];
        int many = 0;
        for (int n = 1; n <= 7; n++) {
            if (x.bond(0, n, 0) == 0) {
                left[many] = n;
                many++;
            }
        }
        x.year();
        for (int i = 0; i < 3; i++) {
            Check.due("i " + i, x.lastOne(0, i), left[i]);
        }
    }

    private static void lastOneHowMany() {
        Check.about("Promise 33: how many (i NONE)");
        DrawnBonds x = Check.house(TEXT);
        Check.years(x, 3);
        Check.due("of a", x.lastOne(0, -1), 3);
        Check.years(x, 40);
        Check.due("LAPSED ones too", x.lastOne(0, -1), 3);
        DrawnBonds most = Check.house("loan a bonds 60 par 1 coupon 0 years 1 end;");
        most.year();
        Check.due("60", most.lastOne(0, -1), 60);
        Check.due("the last", most.lastOne(0, 59), 60);
        Check.due("no more", most.lastOne(0, 60), -2);
    }

    private static void lastOneNotSoMany() {
        Check.about("Promise 33: -2: not so many, i below NONE");
        DrawnBonds x = Check.house(TEXT);
        Check.years(x, 3);
        Check.due("2", x.lastOne(0, 2) >= 1, true);
        Check.due("3", x.lastOne(0, 3), -2);
        Check.due("most", x.lastOne(0, Integer.MAX_VALUE), -2);
        Check.due("-2", x.lastOne(0, -2), -2);
        Check.due("least", x.lastOne(0, Integer.MIN_VALUE), -2);
    }

    private static void lastOneNotOver() {
        Check.about("Promise 33: NONE: no such LOAN, its years are not over");
        DrawnBonds x = Check.house(TEXT);
        Check.years(x, 2);
        for (int i : new int[] {-2, -1, 0, 9}) {
            Check.due("ahead of the last year, i " + i, x.lastOne(0, i), -1);
        }
        for (int l : Check.outside(0, 1)) {
            for (int i : new int[] {-2, -1, 0, 9}) {
                Check.due("loan " + l + " i " + i, x.lastOne(l, i), -1);
            }
        }
        x.year();
        Check.due("behind it", x.lastOne(0, -1), 3);
        Check.due("of e not yet", x.lastOne(1, -1), -1);
        x.undo();
        Check.due("taken back", x.lastOne(0, -1), -1);
    }

    private static void lastOneOfNone() {
        Check.about("Promise 33: none were left for the last year");
        DrawnBonds x = Check.house("loan s bonds 1 par 5 coupon 0 years 2 sink 5;");
        Check.years(x, 2);
        Check.due("how many", x.lastOne(0, -1), 0);
        Check.due("the first", x.lastOne(0, 0), -2);
    }

    // ---- promises 34, 35

    private static final String LUCK = "loan a bonds 1 par 10 coupon 0 years 1 end lapse 1;loan b bonds 3 par 10 coupon 0 years 2 end;loan c bonds 1 par 1 coupon 0 years 9 end;"
            + "holder p cash 0;holder q cash 0;holder r cash 0;holder s cash 0;holder t cash 0;holds p a 1 1;holds q b 1 1;holds s b 2 2;holds p b 3 3;holds t c 1 1;";

    private static void meanOfAll() {
        Check.about("Part 3: MEAN: YEARS in which the BONDS that it holds, of all LOANS, were RETIRED, together by how many of them were");
        DrawnBonds x = Check.house(LUCK);
        x.year();
        Check.fraction("p: 1; 3 of b STANDS", x, x.mean(0), 1, 1);
        x.year();
        Check.fraction("p: 1 (LAPSED) and 2 (OWED)", x, x.mean(0), 3, 2);
        x.claim(0, 1);
        Check.fraction("PAID", x, x.mean(0), 3, 2);
        DrawnBonds bought = Check.house("loan v bonds 2 par 9 coupon 0 years 2 even;price v 1 8;holder h cash 0;holds h v 1 2;");
        bought.year();
        Check.fraction("BOUGHT", bought, bought.mean(0), 1, 1);
        DrawnBonds most = Check.house("loan a bonds 60 par 1 coupon 0 years 20 end;loan b bonds 60 par 1 coupon 0 years 20 end;loan c bonds 60 par 1 coupon 0 years 20 end;"
                + "loan d bonds 60 par 1 coupon 0 years 19 end;holder h cash 0;holds h a 1 60;holds h b 1 60;holds h c 1 60;holds h d 1 60;");
        Check.years(most, 20);
        Check.fraction("240 of them", most, most.mean(0), 79, 4);
    }

    private static void meanNone() {
        Check.about("Promise 34: -2: none");
        DrawnBonds x = Check.house(LUCK);
        Check.years(x, 8);
        Check.due("t's STANDS", x.mean(4), -2);
        Check.due("r holds none", x.mean(2), -2);
        Check.due("below stays", x.below(), 1);
        x.year();
        Check.fraction("t's was drawn", x, x.mean(4), 9, 1);
        Check.due("r still", x.mean(2), -2);
    }

    private static void meanOthers() {
        Check.about("Promise 34: NONE: none such");
        DrawnBonds x = Check.house(LUCK);
        Check.years(x, 9);
        x.mean(0);
        for (int h : Check.outside(0, 4)) {
            Check.due("holder " + h, x.mean(h), -1);
        }
        Check.due("below stays", x.below(), 2);
    }

    private static void unluckyGreatestFirst() {
        Check.about("Part 3: the UNLUCKY come first: by MEAN, the greatest first");
        DrawnBonds x = Check.house(LUCK);
        Check.years(x, 9);
        int[] want = {4, 1, 3, 0};
        for (int i = 0; i < 4; i++) {
            Check.due("i " + i, x.unlucky(i), want[i]);
        }
    }

    private static void unluckyLikeOnes() {
        Check.about("Part 3: of like ones the first HOLDER");
        DrawnBonds x = Check.house("loan b bonds 6 par 10 coupon 0 years 2 end;loan c bonds 2 par 10 coupon 0 years 1 end;loan d bonds 2 par 10 coupon 0 years 3 end;"
                + "holder p cash 0;holder q cash 0;holder r cash 0;holder s cash 0;holds s b 1 1;holds q b 2 2;holds r b 3 5;holds p c 1 1;holds p d 1 1;");
        Check.years(x, 3);
        // p has 1 and 3 by 2: that is 2 as well.
        for (int i = 0; i < 4; i++) {
            Check.due("i " + i, x.unlucky(i), i);
        }
    }

    private static void unluckyHowMany() {
        Check.about("Promise 35: how many there are with a MEAN (i NONE)");
        DrawnBonds x = Check.house(LUCK);
        int[] want = {0, 1, 3, 3, 3, 3, 3, 3, 3, 4};
        for (int y = 0; y <= 9; y++) {
            Check.due("in " + y, x.unlucky(-1), want[y]);
            x.year();
        }
        Check.due("in a new object", new DrawnBonds().unlucky(-1), 0);
        DrawnBonds six = Check.house("loan a bonds 6 par 1 coupon 0 years 6 even;holder p cash 0;holder q cash 0;holder r cash 0;holder s cash 0;holder t cash 0;holder u cash 0;"
                + "holds p a 1 1;holds q a 2 2;holds r a 3 3;holds s a 4 4;holds t a 5 5;holds u a 6 6;");
        Check.years(six, 6);
        Check.due("six", six.unlucky(-1), 6);
        for (int i = 0; i < 6; i++) {
            Check.due("i " + i, six.unlucky(i), six.lot(0, 6 - i, 1) - 1);
        }
        Check.due("i 6", six.unlucky(6), -2);
    }

    private static void unluckyOthers() {
        Check.about("Promise 35: -2: not so many, others");
        DrawnBonds x = Check.house(LUCK);
        Check.due("none yet", x.unlucky(0), -2);
        Check.years(x, 9);
        Check.due("the last", x.unlucky(3), 0);
        Check.due("one more", x.unlucky(4), -2);
        Check.due("most", x.unlucky(Integer.MAX_VALUE), -2);
        Check.due("-2", x.unlucky(-2), -2);
        Check.due("least", x.unlucky(Integer.MIN_VALUE), -2);
    }

    // ---- promise 36

    private static void paidOfEach() {
        Check.about("Promise 36: what 0 to 5");
        DrawnBonds x = Check.house("loan a bonds 6 par 100 coupon 5 years 3 even lapse 1;holder h cash 10;holds h a 1 3;prize a 1 50;price a 2 70;");
        paid(x, 0, 0, 0, 0, 0, 0);
        x.year();
        paid(x, 30, 0, 0, 0, 250, 0);
        x.claim(0, 0);
        paid(x, 30, 150, 0, 0, 100, 0);
        x.year();
        paid(x, 50, 150, 140, 100, 0, 60);
        x.year();
        paid(x, 60, 150, 140, 100, 250, 60);
        x.year();
        paid(x, 60, 150, 140, 350, 0, 60);
        x.undo();
        paid(x, 60, 150, 140, 100, 250, 60);
    }

    private static void paid(DrawnBonds x, long... want) {
        for (int what = 0; what <= 5; what++) {
            Check.due("paid " + what + " in " + x.count(2), x.paid(0, what), want[what]);
        }
    }

    private static void paidToNobody() {
        Check.about("Promise 36: 0: INTEREST (to nobody, too); 3: what LAPSED (par and prizes)");
        DrawnBonds x = Check.house("loan a bonds 2 par 100 coupon 5 years 1 end lapse 1;prize a 2 9999;");
        x.year();
        Check.due("INTEREST", x.paid(0, 0), 10);
        Check.due("OWED", x.paid(0, 4), 200 + 9999);
        x.year();
        Check.due("LAPSED", x.paid(0, 3), 200 + 9999);
        Check.due("OWED", x.paid(0, 4), 0);
    }

    private static void paidOthers() {
        Check.about("Promise 36: NONE: others, none such");
        DrawnBonds x = Check.house(TEXT);
        x.year();
        for (int what : Check.outside(0, 5)) {
            Check.due("what " + what, x.paid(0, what), -1);
        }
        for (int l : Check.outside(0, 1)) {
            Check.due("loan " + l, x.paid(l, 0), -1);
        }
        Check.due("the last of each", x.paid(1, 5), 0);
    }

    private static void paidMost() {
        Check.about("Promise 36: 5: by how much all BOUGHT ones were below par, the most");
        DrawnBonds x = Check.house("loan a bonds 60 par 999 coupon 0 years 2 sink 60;price a 1 1;");
        x.year();
        Check.due("for BOUGHT ones", x.paid(0, 2), 60);
        Check.due("below par", x.paid(0, 5), 60 * 998);
    }

    private static void askingDoesNothing() {
        Check.about("Promises 31 to 36: to ask changes nothing");
        DrawnBonds x = Check.house(TEXT);
        x.year();
        Check.unchanged(x, "what was asked", () -> {
            x.lot(0, 1, 1);
            x.replayed(0, 1, 99);
            x.replayed(0, 1, 0);
            x.lastOne(0, -1);
            x.unlucky(0);
            x.paid(0, 4);
        });
    }
}
