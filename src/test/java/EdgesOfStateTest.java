/** Promises 4 to 10, and the limit of 512 calls: a test for each sentence that names a boundary case. */
public final class EdgesOfStateTest {
    /** Behind two years: of a 2 and 6 drawn, of b two bought, a's 6 lapsed. */
    private static final String TEXT = "loan a bonds 6 par 100 coupon 5 years 3 even lapse 1;loan b bonds 4 par 80 coupon 3 years 4 sink 90;"
            + "holder h cash 10;holder g cash 20;holds h a 1 3;holds g a 5 5;holds g b 1 4;prize a 1 50;price b 1 30;";

    public static void main(String[] args) {
        countOfEach();
        countOfStates();
        countTakenBack();
        countImages();
        countTape();
        countOthers();
        loanOfEach();
        loanThrows();
        loanStands();
        cash();
        heldOfEach();
        heldOthers();
        bondNobody();
        bondStands();
        bondLast();
        bondOthers();
        bondGot();
        standingFrom();
        standingNobody();
        standingNone();
        standingOthers();
        priceOfItsYears();
        priceOthers();
        askingDoesNothing();
        calls512();
        calls512OfDeeds();
        Check.end();
    }

    // ---- promise 4

    private static void countOfEach() {
        Check.about("Promise 4: LOANS, HOLDERS, YEAR");
        DrawnBonds x = Check.house(TEXT);
        Check.due("LOANS", x.count(0), 2);
        Check.due("HOLDERS", x.count(1), 2);
        Check.due("YEAR", x.count(2), 0);
        DrawnBonds most = Check.house("loan a bonds 60 par 1 coupon 0 years 1 end;loan b bonds 60 par 1 coupon 0 years 1 end;loan c bonds 60 par 1 coupon 0 years 1 end;"
                + "loan d bonds 60 par 1 coupon 0 years 1 end;holder p cash 0;holder q cash 0;holder r cash 0;holder s cash 0;holder t cash 0;holder u cash 0;");
        Check.due("most LOANS", most.count(0), 4);
        Check.due("most HOLDERS", most.count(1), 6);
        Check.due("most BONDS", most.count(3), 240);
        Check.years(most, 60);
        Check.due("most YEARS", most.count(2), 60);
        Check.due("most LAPSED", most.count(7), 240);
    }

    private static void countOfStates() {
        Check.about("Promise 4: STAND, OWED, PAID, BOUGHT, LAPSED (all of all LOANS)");
        DrawnBonds x = Check.house(TEXT);
        int[][] want = {{10, 0, 0, 0, 0}, {6, 2, 0, 2, 0}, {6, 1, 1, 2, 0}};
        states(x, want[0]);
        x.year();
        states(x, want[1]);
        x.claim(0, 0);
        states(x, want[2]);
        x.year();
        Check.due("LAPSED", x.count(7), 1);
        Check.due("all together", x.count(3) + x.count(4) + x.count(5) + x.count(6) + x.count(7), 10);
    }

    private static void states(DrawnBonds x, int[] want) {
        for (int s = 0; s < 5; s++) {
            Check.due("count " + (3 + s) + " in " + x.count(2), x.count(3 + s), want[s]);
        }
    }

    private static void countTakenBack() {
        Check.about("Promise 4: 8: what can be taken back");
        DrawnBonds x = Check.house(TEXT);
        for (int k = 1; k <= 14; k++) {
            x.wheel(0, k);
            Check.due("behind " + k, x.count(8), Math.min(k, 12));
        }
    }

    private static void countImages() {
        Check.about("Promise 4: 9: IMAGES that hold something");
        DrawnBonds x = Check.house(TEXT);
        Check.due("none", x.count(9), 0);
        x.image(1, false);
        Check.due("one", x.count(9), 1);
        x.image(1, false);
        Check.due("the same", x.count(9), 1);
        x.image(0, false);
        Check.due("two", x.count(9), 2);
        x.image(0, true);
        Check.due("back does not empty it", x.count(9), 2);
    }

    private static void countTape() {
        Check.about("Promise 4: 10: bytes on THE TAPE");
        DrawnBonds x = new DrawnBonds();
        for (int k = 0; k < 36; k++) {
            Check.due("behind " + k, x.count(10), Math.min(700, 20 * k));
            x.feed(0, 0, 0, 0, 0);
        }
        Check.due("full", x.count(10), 700);
    }

    private static void countOthers() {
        Check.about("Promise 4: NONE for another what");
        DrawnBonds x = Check.house(TEXT);
        for (int what : Check.outside(0, 10)) {
            Check.due("count " + what, x.count(what), -1);
        }
        Check.due("the first", x.count(0), 2);
        Check.due("the last", x.count(10), 0);
    }

    // ---- promise 5

    private static void loanOfEach() {
        Check.about("Promise 5: of a LOAN, what 0 to 9");
        DrawnBonds x = Check.house(TEXT);
        long[][] want = {{6, 100, 5, 3, 0, 0, 1, 1, 0, 6}, {4, 80, 3, 4, 1, 90, 20, 2, 0, 4}};
        for (int l = 0; l < 2; l++) {
            for (int what = 0; what <= 9; what++) {
                Check.due("loan " + l + " " + what, Check.loan(x, l, what), want[l][what]);
            }
        }
    }

    private static void loanThrows() {
        Check.about("Promise 5: NoSuchElementException: others, none such");
        DrawnBonds x = Check.house(TEXT);
        Check.unchanged(x, "loan that throws", () -> {
            for (int what : Check.outside(0, 9)) {
                Check.due("loan 0 " + what, Check.loan(x, 0, what), Check.THROWN);
                Check.due("loan 1 " + what, Check.loan(x, 1, what), Check.THROWN);
            }
            for (int l : Check.outside(0, 1)) {
                Check.due("loan " + l + " 0", Check.loan(x, l, 0), Check.THROWN);
                Check.due("loan " + l + " 9", Check.loan(x, l, 9), Check.THROWN);
                Check.due("loan " + l + " 10", Check.loan(x, l, 10), Check.THROWN);
            }
            Check.due("loan 3, which there could be", Check.loan(x, 3, 0), Check.THROWN);
            Check.due("loan 4", Check.loan(x, 4, 0), Check.THROWN);
        });
    }

    private static void loanStands() {
        Check.about("Promise 5: 9: S, to 0");
        DrawnBonds x = Check.house(TEXT);
        Check.years(x, 2);
        Check.due("in 2", Check.loan(x, 0, 9), 2);
        x.year();
        Check.due("in 3", Check.loan(x, 0, 9), 0);
    }

    // ---- promises 6, 7

    private static void cash() {
        Check.about("Promise 6: NONE: none such");
        DrawnBonds x = Check.house(TEXT);
        Check.due("the first", x.cash(0), 10);
        Check.due("the last", x.cash(1), 20);
        for (int h : Check.outside(0, 1)) {
            Check.due("cash " + h, x.cash(h), -1);
        }
        Check.due("5, which there could be", x.cash(5), -1);
        Check.due("6", x.cash(6), -1);
    }

    private static void heldOfEach() {
        Check.about("Promise 7: how many that are so (0 to 4)");
        DrawnBonds x = Check.house(TEXT);
        x.year();
        int[] h = {2, 1, 0, 0, 0};
        int[] g = {2, 0, 0, 2, 0};
        for (int s = 0; s <= 4; s++) {
            Check.due("of h so " + s, x.held(0, 0, s), h[s]);
            Check.due("of g so " + s, x.held(1, 1, s), g[s]);
            Check.due("h has none of b", x.held(0, 1, s), 0);
        }
        x.year();
        Check.due("LAPSED", x.held(0, 0, 4), 1);
    }

    private static void heldOthers() {
        Check.about("Promise 7: NONE: others");
        DrawnBonds x = Check.house(TEXT);
        for (int s : Check.outside(0, 4)) {
            Check.due("so " + s, x.held(0, 0, s), -1);
        }
        for (int h : Check.outside(0, 1)) {
            Check.due("holder " + h, x.held(h, 0, 0), -1);
        }
        for (int l : Check.outside(0, 1)) {
            Check.due("loan " + l, x.held(0, l, 0), -1);
        }
        Check.due("the last of each", x.held(1, 1, 4), 0);
    }

    // ---- promise 8

    private static void bondNobody() {
        Check.about("Promise 8: 1: its HOLDER (NONE: nobody)");
        DrawnBonds x = Check.house(TEXT);
        int[] want = {0, 0, 0, -1, 1, -1};
        for (int n = 1; n <= 6; n++) {
            Check.due("holder of " + n, x.bond(0, n, 1), want[n - 1]);
        }
        Check.years(x, 3);
        for (int n = 1; n <= 6; n++) {
            Check.due("holder of " + n + " behind its years", x.bond(0, n, 1), want[n - 1]);
        }
    }

    private static void bondStands() {
        Check.about("Promise 8: 2: the YEAR in which it was RETIRED (0: it STANDS); 3: its place in that LOT (from 1; 0)");
        DrawnBonds x = Check.house(TEXT);
        x.year();
        int[][] want = {{0, 0}, {1, 1}, {0, 0}, {0, 0}, {0, 0}, {1, 2}};
        for (int n = 1; n <= 6; n++) {
            Check.due("YEAR of " + n, x.bond(0, n, 2), want[n - 1][0]);
            Check.due("place of " + n, x.bond(0, n, 3), want[n - 1][1]);
        }
        x.year();
        Check.due("a second LOT begins with 1", x.bond(0, x.lot(0, 2, 1), 3), 1);
        Check.due("its YEAR", x.bond(0, x.lot(0, 2, 1), 2), 2);
    }

    private static void bondLast() {
        Check.about("Promise 8: the greatest place and YEAR");
        DrawnBonds x = Check.house("loan a bonds 60 par 1 coupon 99 years 20 end;");
        Check.years(x, 20);
        int last = x.lot(0, 20, 60);
        Check.due("place", x.bond(0, last, 3), 60);
        Check.due("YEAR", x.bond(0, last, 2), 20);
        Check.due("GOT", x.bond(0, last, 4), 20 * 99);
    }

    private static void bondOthers() {
        Check.about("Promise 8: -2: others, none such");
        DrawnBonds x = Check.house(TEXT);
        for (int n : Check.outside(1, 6)) {
            Check.due("number " + n + " of a", x.bond(0, n, 0), -2);
        }
        for (int n : Check.outside(1, 4)) {
            Check.due("number " + n + " of b", x.bond(1, n, 1), -2);
        }
        for (int what : Check.outside(0, 4)) {
            Check.due("what " + what, x.bond(0, 1, what), -2);
        }
        for (int l : Check.outside(0, 1)) {
            Check.due("loan " + l, x.bond(l, 1, 0), -2);
        }
        Check.due("the first", x.bond(0, 1, 0), 0);
        Check.due("the last", x.bond(1, 4, 4), 0);
    }

    private static void bondGot() {
        Check.about("Part 3: what a BOND GOT: coupons while it was held by somebody or not, par and prize when claimed, COST when BOUGHT");
        DrawnBonds x = Check.house(TEXT);
        x.year();
        Check.due("OWED: its coupon alone", x.bond(0, 2, 4), 5);
        Check.due("nobody's", x.bond(0, 4, 4), 5);
        int bought = x.lot(1, 1, 2);
        Check.due("BOUGHT", x.bond(1, bought, 4), 3 + 30);
        x.claim(0, 0);
        Check.due("claimed", x.bond(0, 2, 4), 5 + 150);
        x.sell(0, 1, 1, 0);
        x.year();
        Check.due("no coupon any more", x.bond(0, 2, 4), 155);
        Check.due("BOUGHT, no coupon any more", x.bond(1, bought, 4), 33);
        Check.due("nobody's that LAPSED", x.bond(0, 6, 4), 5);
        Check.due("of two HOLDERS", x.bond(0, 1, 4), 10);
        Check.years(x, 8);
        Check.due("no coupon behind its years", x.bond(0, x.lot(0, 3, 1), 4), 15);
    }

    // ---- promise 9

    private static void standingFrom() {
        Check.about("Promise 9: the first BOND from a number on (1 to how many there are)");
        DrawnBonds x = Check.house(TEXT);
        int[] ofH = {1, 2, 3, -2, -2, -2};
        int[] ofG = {5, 5, 5, 5, 5, -2};
        for (int from = 1; from <= 6; from++) {
            Check.due("of h from " + from, x.standing(0, 0, from), ofH[from - 1]);
            Check.due("of g from " + from, x.standing(0, 1, from), ofG[from - 1]);
        }
        Check.due("of g from the last of b", x.standing(1, 1, 4), 4);
        x.year();
        Check.due("2 does not STAND", x.standing(0, 0, 2), 3);
    }

    private static void standingNobody() {
        Check.about("Promise 9: a HOLDER (NONE: nobody)");
        DrawnBonds x = Check.house(TEXT);
        int[] want = {4, 4, 4, 4, 6, 6};
        for (int from = 1; from <= 6; from++) {
            Check.due("of nobody from " + from, x.standing(0, -1, from), want[from - 1]);
        }
        x.year();
        Check.due("6 does not STAND", x.standing(0, -1, 5), -2);
    }

    private static void standingNone() {
        Check.about("Promise 9: -2: there is none");
        DrawnBonds x = Check.house(TEXT);
        Check.due("h has none of b", x.standing(1, 0, 1), -2);
        Check.due("nobody has none of b", x.standing(1, -1, 1), -2);
        Check.years(x, 3);
        Check.due("none STAND", x.standing(0, 0, 1), -2);
    }

    private static void standingOthers() {
        Check.about("Promise 9: NONE: others");
        DrawnBonds x = Check.house(TEXT);
        for (int from : Check.outside(1, 6)) {
            Check.due("from " + from, x.standing(0, 0, from), -1);
        }
        for (int from : Check.outside(1, 4)) {
            Check.due("from " + from + " of b", x.standing(1, 1, from), -1);
        }
        for (int h : Check.outside(-1, 1)) {
            Check.due("holder " + h, x.standing(0, h, 1), -1);
        }
        for (int l : Check.outside(0, 1)) {
            Check.due("loan " + l, x.standing(l, -1, 1), -1);
        }
    }

    // ---- promise 10

    private static void priceOfItsYears() {
        Check.about("Promise 10: PRICE of a YEAR that passed, of one to come, of the last");
        DrawnBonds x = Check.house(TEXT);
        Check.due("1 of b", x.price(1, 1), 30);
        Check.due("4 of b", x.price(1, 4), 80);
        Check.years(x, 10);
        Check.due("1 of b, passed", x.price(1, 1), 30);
        Check.due("4 of b, passed", x.price(1, 4), 80);
    }

    private static void priceOthers() {
        Check.about("Promise 10: NONE: no such LOAN, YEAR of it");
        DrawnBonds x = Check.house(TEXT);
        for (int y : Check.outside(1, 3)) {
            Check.due("YEAR " + y + " of a", x.price(0, y), -1);
        }
        for (int y : Check.outside(1, 4)) {
            Check.due("YEAR " + y + " of b", x.price(1, y), -1);
        }
        for (int l : Check.outside(0, 1)) {
            Check.due("loan " + l, x.price(l, 1), -1);
        }
    }

    private static void askingDoesNothing() {
        Check.about("Promises 4 to 10: to ask changes nothing");
        DrawnBonds x = Check.house(TEXT);
        x.year();
        String once = Check.seen(x);
        Check.same("all that was asked", Check.seen(x), once);
    }

    // ---- "What it is": 512 calls

    private static void calls512() {
        Check.about("What it is: an object is used for at most 512 calls: the 512th is answered");
        DrawnBonds x = new DrawnBonds();
        Model m = new Model();
        int calls = 0;
        String t = "loan a bonds 60 par 100 coupon 5 years 20 sink 900;holder h cash 5;holds h a 1 60;   ";
        for (int at = 0; at + 20 <= t.length(); at += 20) {
            int[] f = new int[5];
            for (int k = 0; k < 20; k++) {
                f[k / 4] = f[k / 4] << 8 | t.charAt(at + k);
            }
            Check.due("feed", x.feed(f[0], f[1], f[2], f[3], f[4]), m.feed(f));
            calls++;
        }
        Check.due("text", x.text(80), m.text(80));
        calls++;
        while (calls < 511) {
            if (calls % 9 == 0) {
                Check.due("undo", x.undo(), m.undo());
            } else if (calls % 9 == 4) {
                Check.due("image", x.image(calls % 2, calls % 4 == 0), m.image(calls % 2, calls % 4 == 0));
            } else if (calls % 9 == 7) {
                Check.due("year", x.year(), m.year());
            } else {
                Check.due("wheel", x.wheel(0, calls), m.wheel(0, calls));
            }
            calls++;
        }
        Check.due("the 512th", x.cash(0), m.cash(0));
    }

    private static void calls512OfDeeds() {
        Check.about("What it is: 512 calls: a FUND of as many sums as can be put by");
        DrawnBonds x = Check.house("loan a bonds 60 par 999 coupon 0 years 20 sink 99999;");
        for (int k = 1; k <= 500; k++) {
            Check.due("put " + k, x.put(0, 99999), 99999 * k);
        }
        Check.due("DUE", x.year(), 60);
        Check.due("FUND", Check.loan(x, 0, 8), 99999 * 501 - 60 * 999);
    }
}
