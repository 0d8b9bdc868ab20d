import java.math.BigInteger;
import java.util.Arrays;

/** "Terms", part 3, and promises 19 to 30: a test for each sentence that names a boundary case. */
public final class EdgesOfRowTest {
    /** Of s in the years to come 1 drawn, 2 bought, 1 drawn, none. */
    private static final String TEXT = "loan s bonds 4 par 100 coupon 10 years 4 sink 150;holder h cash 500;holder g cash 0;holds h s 1 3;price s 2 50;"
            + "loan e bonds 2 par 7 coupon 0 years 2 end;loan v bonds 3 par 7 coupon 0 years 2 even;";

    public static void main(String[] args) throws ReflectiveOperationException {
        rowOfEach();
        rowOfYearsToCome();
        rowOthers();
        rowHangsOnNoWheel();
        rowAsItIs();
        rowFundInTheLast();
        toPayAll();
        toPayPrizes();
        toPayOver();
        oddsOfAYear();
        oddsOfNothing();
        oddsNoneStand();
        oddsOthers();
        worthOfLeast();
        worthPrizes();
        worthOthers();
        worthNoneStand();
        hugeB();
        hugeAllTogether();
        hugeAnswers();
        lifeEdges();
        lifeNone();
        halfAtLeast();
        halfNone();
        yieldsRange();
        yieldsOfEdges();
        yieldsNotHuge();
        yieldsOthers();
        atLeastRange();
        atLeastOfNone();
        atLeastMost();
        atLeastOthers();
        lastingEdges();
        lastingNone();
        belowAtFirst();
        belowOfEach();
        belowStays();
        ifPriceRange();
        ifPriceYears();
        ifPricePar();
        ifPriceOthers();
        needsLeast();
        needsNothing();
        needsPlan();
        needsOthers();
        needsNoneDoes();
        thoughtAlone();
        Check.end();
    }

    private static int[] of(int... numbers) {
        return numbers;
    }

    // ---- promise 19

    private static void rowOfEach() {
        Check.about("Promise 19: what 0 to 5");
        DrawnBonds x = Check.house(TEXT);
        int[][] want = {of(4, 40, 1, 100, 0, 10), of(3, 30, 2, 50, 1, 30), of(1, 10, 1, 100, 0, 70), of(0, 0, 0, 100, 0, 70)};
        for (int y = 1; y <= 4; y++) {
            for (int what = 0; what <= 5; what++) {
                Check.due("row " + y + " " + what, x.row(0, y, what), want[y - 1][what]);
            }
        }
    }

    private static void rowOfYearsToCome() {
        Check.about("Part 3: THE ROW: from the next one to the last of its years");
        for (int passed = 0; passed <= 5; passed++) {
            DrawnBonds x = Check.house(TEXT);
            Check.years(x, passed);
            for (int y = -1; y <= 6; y++) {
                Check.due("YEAR " + y + " of s in " + passed, x.row(0, y, 0) >= 0, y > passed && y <= 4);
                Check.due("YEAR " + y + " of e in " + passed, x.row(1, y, 0) >= 0, y > passed && y <= 2);
            }
        }
    }

    private static void rowOthers() {
        Check.about("Promise 19: NONE: others, none such");
        DrawnBonds x = Check.house(TEXT);
        for (int what : Check.outside(0, 5)) {
            Check.due("what " + what, x.row(0, 1, what), -1);
        }
        for (int y : Check.outside(1, 4)) {
            Check.due("YEAR " + y, x.row(0, y, 0), -1);
        }
        for (int l : Check.outside(0, 2)) {
            Check.due("loan " + l, x.row(l, 1, 0), -1);
        }
        Check.due("the last of each", x.row(2, 2, 5), 0);
    }

    private static void rowHangsOnNoWheel() {
        Check.about("Part 3: it hangs on no WHEEL");
        DrawnBonds x = Check.house(TEXT);
        DrawnBonds y = Check.house(TEXT);
        y.wheel(0, 2147483646);
        for (int year = 1; year <= 4; year++) {
            for (int what = 0; what <= 5; what++) {
                Check.due("row " + year + " " + what, y.row(0, year, what), x.row(0, year, what));
            }
        }
        Check.due("nor turns one", Check.loan(y, 0, 7), 2147483646);
    }

    private static void rowAsItIs() {
        Check.about("Part 3: with PRICES as they are, FUND as it is");
        DrawnBonds x = Check.house(TEXT);
        x.put(0, 89);
        Check.due("199 by 100", x.row(0, 1, 2), 1);
        x.put(0, 1);
        Check.due("200 by 100", x.row(0, 1, 2), 2);
        x.priced(0, 1, 50);
        Check.due("200 by 50", x.row(0, 1, 2), 4);
        x.undo();
        x.undo();
        x.undo();
        Check.due("110 by 100", x.row(0, 1, 2), 1);
    }

    private static void rowFundInTheLast() {
        Check.about("Promise 19: 5: FUND behind it (in the last one it stays)");
        DrawnBonds x = Check.house("loan s bonds 9 par 100 coupon 0 years 2 sink 130;");
        Check.due("1", x.row(0, 1, 5), 30);
        Check.due("2", x.row(0, 2, 5), 30);
        Check.due("all that STAND are DUE in 2", x.row(0, 2, 2), 8);
        Check.due("though FUND by COST is 1", x.row(0, 2, 3), 100);
    }

    // ---- promise 20

    private static void toPayAll() {
        Check.about("Promise 20: INTEREST, DUE times COST");
        DrawnBonds x = Check.house(TEXT);
        Check.due("s", x.toPay(0), 40 + 30 + 10 + 100 + 100 + 100);
        Check.due("e", x.toPay(1), 14);
        Check.due("v", x.toPay(2), 21);
        DrawnBonds most = Check.house("loan a bonds 60 par 999 coupon 99 years 20 end;");
        Check.due("much", most.toPay(0), 60 * 99 * 20 + 60 * 999);
    }

    private static void toPayPrizes() {
        Check.about("Promise 20: prizes as for WORTH: if it is DRAWN, with RANKS to DUE");
        DrawnBonds x = Check.house("loan v bonds 4 par 7 coupon 0 years 2 even;prize v 1 1000;prize v 2 200;prize v 3 30;loan n bonds 9 par 1 coupon 0 years 1 end;prize n 9 50;"
                + "loan t bonds 8 par 1 coupon 0 years 1 end;prize t 9 50;prize t 8 5;");
        Check.due("RANKS 1 and 2, twice", x.toPay(0), 28 + 2400);
        x.priced(0, 1, 6);
        Check.due("none for BOUGHT ones", x.toPay(0), 12 + 14 + 1200);
        x.priced(0, 1, 7);
        Check.due("at par they are DRAWN", x.toPay(0), 28 + 2400);
        Check.due("RANK 9 of nine", x.toPay(1), 9 + 50);
        Check.due("RANK 9 of eight", x.toPay(2), 8 + 5);
    }

    private static void toPayOver() {
        Check.about("Promise 20: NONE: none such; nothing when its years are over");
        DrawnBonds x = Check.house(TEXT);
        for (int l : Check.outside(0, 2)) {
            Check.due("loan " + l, x.toPay(l), -1);
        }
        Check.years(x, 1);
        Check.due("e in its last year", x.toPay(1), 14);
        Check.years(x, 1);
        Check.due("e is over", x.toPay(1), 0);
        Check.years(x, 2);
        Check.due("s is over", x.toPay(0), 0);
    }

    // ---- promise 21

    private static void oddsOfAYear() {
        Check.about("Part 3: ODDS of a YEAR to come: DUE of it by S");
        DrawnBonds x = Check.house(TEXT);
        Check.fraction("1", x, x.odds(0, 1), 1, 4);
        Check.fraction("2", x, x.odds(0, 2), 1, 2);
        Check.fraction("3", x, x.odds(0, 3), 1, 4);
        Check.fraction("all in one", x, x.odds(1, 2), 1, 1);
        Check.fraction("of three", x, x.odds(2, 2), 2, 3);
        x.year();
        Check.fraction("S is what STANDS now", x, x.odds(0, 2), 2, 3);
    }

    private static void oddsOfNothing() {
        Check.about("Part 3: FRACTIONS in least terms (0 as 0 by 1)");
        DrawnBonds x = Check.house(TEXT);
        x.odds(0, 1);
        Check.due("below", x.below(), 4);
        Check.fraction("4 of s: none are due", x, x.odds(0, 4), 0, 1);
        x.odds(0, 1);
        Check.fraction("1 of e", x, x.odds(1, 1), 0, 1);
    }

    private static void oddsNoneStand() {
        Check.about("Promise 21: NONE: none STAND");
        DrawnBonds x = Check.house(TEXT);
        Check.years(x, 2);
        Check.fraction("one STANDS", x, x.odds(0, 3), 1, 1);
        x.year();
        Check.due("none", x.odds(0, 4), -1);
        Check.due("below stays", x.below(), 1);
    }

    private static void oddsOthers() {
        Check.about("Promise 21: NONE: others");
        DrawnBonds x = Check.house(TEXT);
        x.odds(2, 2);
        for (int y : Check.outside(1, 4)) {
            Check.due("YEAR " + y, x.odds(0, y), -1);
        }
        for (int l : Check.outside(0, 2)) {
            Check.due("loan " + l, x.odds(l, 1), -1);
        }
        x.year();
        Check.due("a YEAR that passed", x.odds(0, 1), -1);
        Check.due("below stays", x.below(), 3);
    }

    // ---- promise 22

    private static void worthOfLeast() {
        Check.about("Part 3: WORTH by i in a hundred: i 0 and i 99");
        DrawnBonds x = Check.house("loan a bonds 2 par 100 coupon 10 years 2 even;");
        // 20 and 100, then 10 and 100, by 2.
        Check.fraction("0", x, x.worth(0, 0), 115, 1);
        // 60 times 100 by 199, and 55 times 10000 by 39601.
        Check.fraction("99", x, x.worth(0, 99), 60L * 100 * 199 + 55 * 10000, 39601);
        Check.fraction("1", x, x.worth(0, 1), 60L * 100 * 101 + 55 * 10000, 10201);
        // 60 times 2 by 3, and 55 times 4 by 9.
        Check.fraction("50, in least terms", x, x.worth(0, 50), 580, 9);
    }

    private static void worthPrizes() {
        Check.about("Part 3: WORTH: if it is DRAWN, prizes with RANKS to DUE");
        DrawnBonds x = Check.house("loan v bonds 4 par 7 coupon 0 years 2 even;prize v 1 1000;prize v 2 200;prize v 3 30;");
        Check.fraction("drawn", x, x.worth(0, 0), 607, 1);
        x.priced(0, 1, 6);
        Check.fraction("bought in 1", x, x.worth(0, 0), 613, 2);
    }

    private static void worthOthers() {
        Check.about("Promise 22: WORTH by i (0 to 99); NONE: others");
        DrawnBonds x = Check.house(TEXT);
        x.odds(2, 2);
        for (int i : Check.outside(0, 99)) {
            Check.due("i " + i, x.worth(0, i), -1);
        }
        for (int l : Check.outside(0, 2)) {
            Check.due("loan " + l, x.worth(l, 5), -1);
        }
        Check.due("below stays", x.below(), 3);
        Check.due("0", x.worth(0, 0) > 0, true);
        Check.due("99", x.worth(0, 99) > 0, true);
    }

    private static void worthNoneStand() {
        Check.about("Promise 22: NONE: none STAND");
        DrawnBonds x = Check.house(TEXT);
        Check.years(x, 2);
        Check.fraction("one STANDS", x, x.worth(0, 0), 110, 1);
        x.year();
        Check.due("none, in a YEAR ahead of the last", x.worth(0, 0), -1);
        x.year();
        Check.due("its years are over", x.worth(0, 0), -1);
    }

    private static void hugeB() {
        Check.about("Part 3: HUGE: B is above 2 to the 62");
        // At 60 in a hundred q is 8; 8 to the 20 is 2 to the 60.
        DrawnBonds four = Check.house("loan a bonds 4 par 1 coupon 0 years 20 end;");
        Check.fraction("B is 2 to the 62", four, four.worth(0, 60), 95367431640625L, 1L << 60);
        DrawnBonds five = Check.house("loan a bonds 5 par 1 coupon 0 years 20 end;");
        Check.fraction("B is 5 times 2 to the 60", five, five.worth(0, 60), -2, 1);
        five.year();
        Check.fraction("with a YEAR fewer", five, five.worth(0, 60), 19073486328125L, 1L << 57);
        // At 28 q is 32; 32 to the 12 is 2 to the 60.
        DrawnBonds twelve = Check.house("loan a bonds 4 par 1 coupon 0 years 12 end;");
        Check.fraction("25 to the 12 by 32 to the 12", twelve, twelve.worth(0, 28), 59604644775390625L, 1L << 60);
        Check.fraction("another q, 43", twelve, twelve.worth(0, 29), -2, 1L << 60);
        DrawnBonds thirteen = Check.house("loan a bonds 1 par 1 coupon 0 years 13 end;");
        Check.due("32 to the 13", thirteen.worth(0, 28), -2);
    }

    private static void hugeAllTogether() {
        Check.about("Part 3: HUGE: all together with B below it is above 2 to the 62");
        int[] prices = {16, 36, 20, 25, 16, 4, 4, 22, 8, 20, 4, 7, 9, 11, 2, 14, 3, 29, 31};
        StringBuilder t = new StringBuilder();
        BigInteger all = BigInteger.ZERO;
        for (int y = 1; y <= 19; y++) {
            t.append("price a ").append(y).append(' ').append(prices[y - 1]).append(';');
            all = all.add(BigInteger.valueOf(2L * prices[y - 1]).multiply(BigInteger.valueOf(4).pow(y)).multiply(BigInteger.valueOf(7).pow(20 - y)));
        }
        all = all.add(BigInteger.valueOf(2 * 57).multiply(BigInteger.valueOf(4).pow(20)));
        Check.due("all together is 2 to the 62", all.equals(BigInteger.ONE.shiftLeft(62)), true);
        // At 75 in a hundred p is 4, q is 7; B is 40 times 7 to the 20.
        DrawnBonds just = Check.house("loan a bonds 40 par 57 coupon 0 years 20 even;" + t);
        Check.fraction("par 57", just, just.worth(0, 75), 1L << 59, 398961331488060005L);
        DrawnBonds beyond = Check.house("loan a bonds 40 par 58 coupon 0 years 20 even;" + t);
        Check.fraction("par 58", beyond, beyond.worth(0, 75), -2, 1);
        just.priced(0, 19, 32);
        Check.due("one more in 19", just.worth(0, 75), -2);
        just.priced(0, 19, 30);
        Check.due("one less in 19", just.worth(0, 75) > 0, true);
        // Here B is not, but each part of the sum is so far beyond that two of them would wrap around.
        DrawnBonds parts = Check.house("loan a bonds 4 par 999 coupon 99 years 9 end;");
        Check.due("each part beyond", parts.worth(0, 1), -2);
        DrawnBonds far = Check.house("loan a bonds 60 par 999 coupon 99 years 9 end;");
        Check.due("both beyond", far.worth(0, 1), -2);
        DrawnBonds farther = Check.house("loan a bonds 60 par 999 coupon 99 years 20 end;");
        Check.due("B far beyond", farther.worth(0, 99), -2);
    }

    private static void hugeAnswers() {
        Check.about("Promise 22: -2: HUGE (what is below stays)");
        DrawnBonds x = Check.house("loan a bonds 60 par 999 coupon 99 years 20 end;loan b bonds 3 par 1 coupon 0 years 3 even;");
        x.odds(1, 1);
        Check.fraction("huge", x, x.worth(0, 99), -2, 3);
        Check.fraction("not at 0", x, x.worth(0, 0), 99 * 20 + 999, 1);
    }

    // ---- promises 23, 24

    private static void lifeEdges() {
        Check.about("Part 3: LIFE: n times DUE of all YEARS to come together, by S");
        DrawnBonds x = Check.house(TEXT);
        Check.fraction("s: 1 and 4 and 3 by 4", x, x.life(0), 2, 1);
        Check.fraction("e: 4 by 2", x, x.life(1), 2, 1);
        Check.fraction("v: 1 and 4 by 3", x, x.life(2), 5, 3);
        x.year();
        Check.fraction("s: n is counted from now", x, x.life(0), 4, 3);
        DrawnBonds most = Check.house("loan a bonds 60 par 1 coupon 0 years 20 end;");
        Check.fraction("most", most, most.life(0), 20, 1);
        Check.years(most, 19);
        Check.fraction("least", most, most.life(0), 1, 1);
    }

    private static void lifeNone() {
        Check.about("Promise 23: NONE: none such, none STAND");
        DrawnBonds x = Check.house(TEXT);
        for (int l : Check.outside(0, 2)) {
            Check.due("loan " + l, x.life(l), -1);
        }
        Check.years(x, 2);
        Check.fraction("one STANDS, for a YEAR from now", x, x.life(0), 1, 1);
        x.year();
        Check.due("none STAND", x.life(0), -1);
        x.year();
        Check.due("its years are over", x.life(0), -1);
    }

    private static void halfAtLeast() {
        Check.about("Part 3: HALF: the first YEAR to come behind which at least half of S are RETIRED");
        for (int bonds = 1; bonds <= 9; bonds++) {
            DrawnBonds x = Check.house("loan a bonds " + bonds + " par 1 coupon 0 years " + bonds + " even;");
            Check.due("of " + bonds + ", one a YEAR", x.half(0), (bonds + 1) / 2);
        }
        DrawnBonds end = Check.house("loan a bonds 9 par 1 coupon 0 years 20 end;");
        Check.due("all in the last", end.half(0), 20);
        Check.years(end, 19);
        Check.due("it is a YEAR, not how many come", end.half(0), 20);
        DrawnBonds later = Check.house("loan a bonds 8 par 1 coupon 0 years 8 even;");
        Check.due("in 0", later.half(0), 4);
        later.year();
        Check.due("of seven in 1: four of them", later.half(0), 5);
    }

    private static void halfNone() {
        Check.about("Promise 24: NONE likewise");
        DrawnBonds x = Check.house(TEXT);
        for (int l : Check.outside(0, 2)) {
            Check.due("loan " + l, x.half(l), -1);
        }
        Check.years(x, 2);
        Check.due("one STANDS", x.half(0), 3);
        x.year();
        Check.due("none STAND", x.half(0), -1);
        x.year();
        Check.due("its years are over", x.half(0), -1);
    }

    // ---- promise 25

    private static void yieldsRange() {
        Check.about("Promise 25: at a price (1 to 99999); NONE: others");
        DrawnBonds x = Check.house(TEXT);
        for (int price : Check.outside(1, 99999)) {
            Check.due("price " + price, x.yields(0, price), -1);
        }
        Check.due("1", x.yields(0, 1), 99);
        Check.due("99999", x.yields(0, 99999), -2);
    }

    private static void yieldsOfEdges() {
        Check.about("Part 3: YIELD: the greatest i (0 to 99) with which WORTH is at least that price; -2: none");
        // 1098 in a year: times 100 by 199 it is 551 and a bit, by 198 554 and a bit.
        DrawnBonds x = Check.house("loan a bonds 1 par 999 coupon 99 years 1 end;");
        int[][] want = {of(1, 99), of(551, 99), of(552, 98), of(554, 98), of(555, 97), of(1087, 1), of(1088, 0), of(1098, 0), of(1099, -2)};
        for (int[] one : want) {
            Check.due("at " + one[0], x.yields(0, one[0]), one[1]);
        }
        DrawnBonds exact = Check.house("loan a bonds 1 par 250 coupon 0 years 1 end;");
        Check.due("WORTH by 25 is 200", exact.yields(0, 200), 25);
        Check.due("one more", exact.yields(0, 201), 24);
    }

    private static void yieldsNotHuge() {
        Check.about("Part 3: YIELD: with which WORTH is not HUGE");
        // With 20 years only few i have a small q; those between are HUGE and do not count.
        DrawnBonds one = Check.house("loan a bonds 1 par 100 coupon 10 years 20 end;");
        for (int[] pair : new int[][] {of(13, 75), of(14, 50), of(20, 50), of(21, 40), of(25, 40), of(26, 25), of(40, 25), of(41, 20), of(51, 20), of(52, 0), of(300, 0)}) {
            Check.due("at " + pair[0], one.yields(0, pair[0]), pair[1]);
        }
        Check.due("none", one.yields(0, 301), -2);
        DrawnBonds four = Check.house("loan a bonds 4 par 1 coupon 0 years 20 end;");
        Check.due("below 1 by all but 0", four.yields(0, 1), 0);
    }

    private static void yieldsOthers() {
        Check.about("Promise 25: NONE: others, none STAND");
        DrawnBonds x = Check.house(TEXT);
        for (int l : Check.outside(0, 2)) {
            Check.due("loan " + l, x.yields(l, 5), -1);
        }
        Check.years(x, 2);
        Check.due("one STANDS", x.yields(0, 110), 0);
        Check.due("too dear", x.yields(0, 111), -2);
        x.year();
        Check.due("none STAND", x.yields(0, 1), -1);
        x.year();
        Check.due("its years are over", x.yields(0, 1), -1);
        x.mean(1);
        Check.due("it tells no FRACTION", x.below(), 1);
    }

    // ---- promise 26

    private static void atLeastRange() {
        Check.about("Promise 26: AT LEAST j (0 to 60); NONE: others");
        DrawnBonds x = Check.house(TEXT);
        for (int j : Check.outside(0, 60)) {
            Check.due("j " + j, x.atLeast(0, 0, j), -1);
        }
        Check.fraction("0", x, x.atLeast(0, 0, 0), 1, 1);
        Check.fraction("1: three of four, one is due", x, x.atLeast(0, 0, 1), 3, 4);
        Check.fraction("2: but one is due", x, x.atLeast(0, 0, 2), 0, 1);
        Check.fraction("60", x, x.atLeast(0, 0, 60), 0, 1);
    }

    private static void atLeastOfNone() {
        Check.about("Part 3: AT LEAST j of m BONDS that STAND: m is 0, DUE is 0, S is 0");
        DrawnBonds x = Check.house(TEXT);
        Check.fraction("g holds none, 0", x, x.atLeast(1, 0, 0), 1, 1);
        Check.fraction("g holds none, 1", x, x.atLeast(1, 0, 1), 0, 1);
        Check.fraction("none are due of e, 0", x, x.atLeast(0, 1, 0), 1, 1);
        Check.fraction("none are due of e, 1", x, x.atLeast(0, 1, 1), 0, 1);
        Check.years(x, 3);
        Check.due("none of s STAND", Check.loan(x, 0, 9), 0);
        Check.fraction("none STAND, 0", x, x.atLeast(0, 0, 0), 1, 1);
        Check.fraction("none STAND, 1", x, x.atLeast(0, 0, 1), 0, 1);
    }

    private static void atLeastMost() {
        Check.about("Part 3: AT LEAST: the greatest numbers of sets");
        DrawnBonds x = Check.house("loan a bonds 60 par 10 coupon 0 years 2 even;holder h cash 0;holder g cash 0;holds h a 1 30;holds g a 31 60;");
        Check.fraction("30 of 30", x, x.atLeast(0, 0, 30), 1, 118264581564861424L);
        Check.fraction("31 of 30", x, x.atLeast(0, 0, 31), 0, 1);
        Check.fraction("1 of 30", x, x.atLeast(1, 0, 1), 118264581564861423L, 118264581564861424L);
        DrawnBonds all = Check.house("loan a bonds 60 par 10 coupon 0 years 1 end;holder h cash 0;holds h a 1 60;");
        Check.fraction("60 of 60", all, all.atLeast(0, 0, 60), 1, 1);
    }

    private static void atLeastOthers() {
        Check.about("Promise 26: NONE: others, its years are over");
        DrawnBonds x = Check.house(TEXT);
        x.odds(2, 2);
        for (int h : Check.outside(0, 1)) {
            Check.due("holder " + h, x.atLeast(h, 0, 0), -1);
        }
        for (int l : Check.outside(0, 2)) {
            Check.due("loan " + l, x.atLeast(0, l, 0), -1);
        }
        Check.due("below stays", x.below(), 3);
        x.year();
        Check.fraction("the last year of e is next", x, x.atLeast(0, 1, 0), 1, 1);
        x.year();
        Check.due("e is over", x.atLeast(0, 1, 0), -1);
        Check.fraction("s is not", x, x.atLeast(0, 0, 0), 1, 1);
    }

    // ---- promise 27

    private static void lastingEdges() {
        Check.about("Promise 27: all of a HOLDER's BONDS that STAND stand till the last of its years");
        DrawnBonds x = Check.house("loan a bonds 6 par 10 coupon 0 years 3 even;loan e bonds 3 par 10 coupon 0 years 3 end;holder h cash 0;holder g cash 0;holder f cash 0;"
                + "holds h a 1 2;holds g a 3 5;holds f a 6 6;holds h e 1 3;");
        Check.fraction("as many as last", x, x.lasting(0, 0), 1, 15);
        Check.fraction("more than last", x, x.lasting(1, 0), 0, 1);
        Check.fraction("one", x, x.lasting(2, 0), 1, 3);
        Check.fraction("all last of end", x, x.lasting(0, 1), 1, 1);
        Check.years(x, 2);
        int h = x.held(0, 0, 0) > 0 ? 0 : x.held(1, 0, 0) > 0 ? 1 : 2;
        Check.fraction("the last year is the next", x, x.lasting(h, 0), 1, 1);
        DrawnBonds most = Check.house("loan a bonds 60 par 10 coupon 0 years 2 even;holder h cash 0;holds h a 1 30;");
        Check.fraction("30 of 60", most, most.lasting(0, 0), 1, 118264581564861424L);
    }

    private static void lastingNone() {
        Check.about("Promise 27: NONE: others, its years are over, none of its BONDS STANDS");
        DrawnBonds x = Check.house(TEXT);
        x.odds(2, 2);
        for (int h : Check.outside(0, 1)) {
            Check.due("holder " + h, x.lasting(h, 0), -1);
        }
        for (int l : Check.outside(0, 2)) {
            Check.due("loan " + l, x.lasting(0, l), -1);
        }
        Check.due("g holds none", x.lasting(1, 0), -1);
        Check.due("h holds none of e", x.lasting(0, 1), -1);
        Check.due("below stays", x.below(), 3);
        DrawnBonds gone = Check.house("loan s bonds 1 par 5 coupon 0 years 3 sink 5;holder h cash 0;holds h s 1 1;");
        Check.fraction("it goes ahead of the last year", gone, gone.lasting(0, 0), 0, 1);
        gone.year();
        Check.due("none STANDS any more", gone.lasting(0, 0), -1);
        DrawnBonds over = Check.house("loan e bonds 1 par 5 coupon 0 years 1 end;holder h cash 0;holds h e 1 1;");
        Check.fraction("ahead of its only year", over, over.lasting(0, 0), 1, 1);
        over.year();
        Check.due("its years are over", over.lasting(0, 0), -1);
    }

    // ---- promise 28

    private static void belowAtFirst() {
        Check.about("Promise 28: 1 at first");
        Check.due("new", new DrawnBonds().below(), 1);
        Check.due("behind a TEXT", Check.house(TEXT).below(), 1);
    }

    private static void belowOfEach() {
        Check.about("Promise 28: what is below of the latest FRACTION told");
        DrawnBonds x = Check.house(TEXT);
        Check.fraction("odds", x, x.odds(2, 2), 2, 3);
        Check.fraction("worth", x, x.worth(2, 25), 364, 75);
        Check.fraction("atLeast", x, x.atLeast(0, 0, 1), 3, 4);
        Check.fraction("lasting", x, x.lasting(0, 0), 0, 1);
        Check.fraction("life", x, x.life(2), 5, 3);
        x.year();
        x.odds(2, 2);
        Check.due("odds in 1", x.below(), 1);
        x.life(0);
        Check.due("life in 1", x.below(), 3);
        if (x.mean(0) == 1) {
            Check.due("mean", x.below(), 1);
        }
    }

    private static void belowStays() {
        Check.about("Promise 28: other calls, and those that tell none, leave it");
        DrawnBonds x = Check.house(TEXT);
        x.odds(2, 2);
        x.row(0, 1, 2);
        x.toPay(0);
        x.half(0);
        x.yields(0, 5);
        x.ifPrice(0, 1, 5, 1);
        x.needs(0, 1);
        x.unlucky(-1);
        x.mean(0);
        x.odds(0, 9);
        x.worth(0, 100);
        x.life(9);
        x.atLeast(0, 0, 61);
        x.lasting(1, 0);
        x.year();
        x.undo();
        x.image(0, false);
        x.image(0, true);
        Check.read(x, TEXT);
        Check.due("below", x.below(), 3);
    }

    // ---- promise 29

    private static void ifPriceRange() {
        Check.about("Promise 29: another one (1 to 999)");
        DrawnBonds x = Check.house(TEXT);
        for (int price : Check.outside(1, 999)) {
            Check.due("price " + price, x.ifPrice(0, 1, price, 1), -1);
        }
        Check.due("1", x.ifPrice(0, 1, 1, 1), 0);
        Check.due("999", x.ifPrice(0, 1, 999, 1), 3);
        Check.due("the one that it is", x.ifPrice(0, 2, 50, 2), 1);
    }

    private static void ifPriceYears() {
        Check.about("Promise 29: behind a later YEAR to come, or that one");
        DrawnBonds x = Check.house(TEXT);
        Check.due("an earlier one", x.ifPrice(0, 2, 100, 1), -1);
        Check.due("that one", x.ifPrice(0, 2, 100, 2), 2);
        Check.due("a later one", x.ifPrice(0, 2, 100, 3), 1);
        Check.due("the last one", x.ifPrice(0, 2, 100, 4), 0);
        Check.due("behind its years", x.ifPrice(0, 2, 100, 5), -1);
        Check.due("of the last one", x.ifPrice(0, 4, 1, 4), 0);
        x.year();
        Check.due("of one that passed", x.ifPrice(0, 1, 5, 2), -1);
        Check.due("behind one that passed", x.ifPrice(0, 2, 5, 1), -1);
        Check.due("of the next one", x.ifPrice(0, 2, 100, 2), 2);
        Check.years(x, 3);
        Check.due("its years are over", x.ifPrice(0, 4, 5, 4), -1);
    }

    private static void ifPricePar() {
        Check.about("Promise 29: a PRICE below par, at par, in the last year, of another PLAN");
        DrawnBonds x = Check.house("loan s bonds 4 par 100 coupon 0 years 3 sink 198;loan v bonds 4 par 100 coupon 0 years 4 even;loan e bonds 4 par 100 coupon 0 years 4 end;");
        Check.due("99: 198 by 99", x.ifPrice(0, 1, 99, 1), 2);
        Check.due("100: 198 by 100", x.ifPrice(0, 1, 100, 1), 3);
        Check.due("101: by 100", x.ifPrice(0, 1, 101, 1), 3);
        Check.due("66: 198 by 66", x.ifPrice(0, 1, 66, 1), 1);
        x.put(0, 1);
        Check.due("100: 199 by 100", x.ifPrice(0, 1, 100, 1), 3);
        x.put(0, 1);
        Check.due("100: 200 by 100", x.ifPrice(0, 1, 100, 1), 2);
        Check.due("the last", x.ifPrice(0, 3, 1, 3), 0);
        Check.due("even", x.ifPrice(1, 1, 1, 1), 3);
        Check.due("end", x.ifPrice(2, 1, 1, 3), 4);
    }

    private static void ifPriceOthers() {
        Check.about("Promise 29: NONE: others");
        DrawnBonds x = Check.house(TEXT);
        for (int y : Check.outside(1, 4)) {
            Check.due("YEAR " + y, x.ifPrice(0, y, 5, 4), -1);
            Check.due("then " + y, x.ifPrice(0, 1, 5, y), -1);
            Check.due("both " + y, x.ifPrice(0, y, 5, y), -1);
        }
        for (int l : Check.outside(0, 2)) {
            Check.due("loan " + l, x.ifPrice(l, 1, 5, 1), -1);
        }
    }

    // ---- promise 30

    private static void needsLeast() {
        Check.about("Promise 30: the least sum by which the FUND must be more now so that none STAND behind a YEAR to come");
        int[] sums = new int[5];
        for (int y = 1; y <= 4; y++) {
            sums[y] = Check.house(TEXT).needs(0, y);
            DrawnBonds with = Check.house(TEXT);
            if (sums[y] > 0) {
                with.put(0, sums[y]);
            }
            Check.due("with it none STAND behind " + y, with.row(0, y, 0) - with.row(0, y, 2), 0);
            if (sums[y] > 1) {
                DrawnBonds less = Check.house(TEXT);
                less.put(0, sums[y] - 1);
                Check.due("with one less some do", less.row(0, y, 0) - less.row(0, y, 2) > 0, true);
            }
        }
        Check.due("1", sums[1], 290);
        Check.due("2", sums[2], 20);
        // What is put by too early buys dear, so more is not always enough.
        DrawnBonds x = Check.house("loan b bonds 2 par 100 coupon 0 years 3 sink 1;price b 2 10;");
        Check.due("18", x.needs(0, 2), 18);
        x.put(0, 99);
        Check.due("with 99 there 9 more", x.needs(0, 2), 9);
    }

    private static void needsNothing() {
        Check.about("Promise 30: sum 0");
        DrawnBonds x = Check.house(TEXT);
        Check.due("3", x.needs(0, 3), 0);
        Check.due("the last", x.needs(0, 4), 0);
        x.put(0, 289);
        Check.due("one", x.needs(0, 1), 1);
        x.put(0, 1);
        Check.due("none", x.needs(0, 1), 0);
        x.year();
        Check.due("none STAND", x.needs(0, 2), 0);
    }

    private static void needsPlan() {
        Check.about("Promise 30: NONE: PLAN is not sink");
        DrawnBonds x = Check.house(TEXT);
        Check.due("end", x.needs(1, 1), -1);
        Check.due("even", x.needs(2, 1), -1);
        Check.due("end, the last", x.needs(1, 2), -1);
        Check.due("even, the last", x.needs(2, 2), -1);
    }

    private static void needsOthers() {
        Check.about("Promise 30: NONE: others");
        DrawnBonds x = Check.house(TEXT);
        for (int y : Check.outside(1, 4)) {
            Check.due("YEAR " + y, x.needs(0, y), -1);
        }
        for (int l : Check.outside(0, 2)) {
            Check.due("loan " + l, x.needs(l, 1), -1);
        }
        x.year();
        Check.due("one that passed", x.needs(0, 1), -1);
        Check.due("the next", x.needs(0, 2) >= 0, true);
        Check.years(x, 3);
        Check.due("its years are over", x.needs(0, 4), -1);
    }

    /** No TEXT makes BONDS so dear that 99999 don't do, so a par of 100000 is laid into the object by hand. */
    private static void needsNoneDoes() throws ReflectiveOperationException {
        Check.about("Promise 30: (0 to 99999); -2: none does");
        DrawnBonds most = Check.house("loan b bonds 60 par 999 coupon 99 years 3 sink 1;");
        Check.due("the most that a TEXT can need", most.needs(0, 1), 59940);
        Check.due("99999 do", dear(0).needs(0, 1), 99999);
        Check.due("100000 would do", dear(1).needs(0, 1), -2);
        Check.due("the last year needs none", dear(1).needs(0, 2), 0);
    }

    private static DrawnBonds dear(int coupon) throws ReflectiveOperationException {
        DrawnBonds x = Check.house("loan b bonds 1 par 999 coupon " + coupon + " years 2 sink 1;");
        Check.inside(x, "terms", "par")[0] = 100000;
        Arrays.fill(Check.inside(x, "now", "price"), 100000);
        return x;
    }

    private static void thoughtAlone() {
        Check.about("Promises 19 to 30: in thought: nothing is done");
        DrawnBonds x = Check.house(TEXT);
        x.year();
        x.image(0, false);
        x.odds(0, 2);
        Check.unchanged(x, "calls in thought", () -> {
            x.row(0, 2, 5);
            x.toPay(0);
            x.half(0);
            x.yields(0, 5);
            x.ifPrice(0, 2, 5, 3);
            x.needs(0, 2);
            x.worth(0, 100);
            x.atLeast(0, 0, 61);
        });
    }
}
