/** Promises 1 to 3: a new object, feed, text with all its FAULTS. */
public final class TextTest {
    private static final String LOAN = "loan a bonds 6 par 100 coupon 5 years 3 even;";
    private static final String HOLDER = "holder h cash 10;";
    private static final String BOTH = LOAN + HOLDER;

    public static void main(String[] args) {
        newObject();
        feed();
        textAnswers();
        textBegins();
        faultStays();
        tokens();
        faultOne();
        faultTwo();
        faultThree();
        faultFour();
        edgesThatCanBe();
        faultFive();
        leastPlace();
        Check.end();
    }

    private static void newObject() {
        DrawnBonds x = new DrawnBonds();
        for (int what = 0; what <= 10; what++) {
            Check.due("new: count " + what, x.count(what), 0);
        }
        Check.due("new: below", x.below(), 1);
        Check.due("new: loan", Check.loan(x, 0, 0), Check.THROWN);
        Check.due("new: cash", x.cash(0), -1);
        Check.due("new: year", x.year(), 0);
        Check.due("new: YEAR behind it", x.count(2), 1);
    }

    private static void feed() {
        DrawnBonds x = new DrawnBonds();
        for (int k = 1; k <= 35; k++) {
            Check.due("feed " + k, x.feed(0x20202020, 0x20202020, 0x20202020, 0x20202020, 0x20202020), 20 * k);
        }
        Check.due("feed beyond 700", x.feed(1, 2, 3, 4, 5), -1);
        Check.due("bytes on THE TAPE", x.count(10), 700);
        Check.due("700 blanks", x.text(700), 0);
        // The highest byte comes first, and one above 127 is a byte too.
        x.feed(0x20FF2020, 0, 0, 0, 0);
        Check.due("byte 255 at place 1", x.text(20), -2 - 9);
        x.feed(0x80202020, 0, 0, 0, 0);
        Check.due("byte 128 at place 0", x.text(20), -2 - 1);
        x.feed(0x20202020, 0x20202020, 0x20202020, 0x20202020, 0x20202041);
        Check.due("the last byte at place 19", x.text(20), -2 - (8 * 19 + 1));
    }

    private static void textAnswers() {
        DrawnBonds x = new DrawnBonds();
        Check.feed(x, BOTH);
        int fed = x.count(10);
        Check.due("text below 0", x.text(-1), -1);
        Check.due("text of the least number", x.text(Integer.MIN_VALUE), -1);
        Check.due("text beyond THE TAPE", x.text(fed + 1), -1);
        Check.due("THE TAPE stays", x.count(10), fed);
        Check.due("text of the first line", x.text(LOAN.length()), 1);
        Check.due("THE TAPE is empty", x.count(10), 0);
        Check.due("its loans", x.count(0), 1);
        Check.due("its holders", x.count(1), 0);
        Check.due("no lines", x.text(0), 0);
        Check.due("no loans then", x.count(0), 0);
        // Bytes behind the first n are not looked at, not even to end a TOKEN.
        Check.feed(x, "holder abcdef cash 5;");
        Check.due("cut in a word", x.text(10), -2 - (8 * 10 + 1));
        Check.feed(x, "holder a cash 5;holder");
        Check.due("cut ahead of a word", x.text(16), 1);
    }

    private static void textBegins() {
        DrawnBonds x = Check.house(BOTH + "holds h a 1 6;price a 2 70;");
        x.priced(0, 1, 50);
        x.year();
        x.wheel(0, 99);
        x.image(0, false);
        x.image(1, false);
        Check.due("the same again", Check.read(x, BOTH + "holds h a 1 6;price a 2 70;"), 4);
        Check.due("YEAR", x.count(2), 0);
        Check.due("all STAND", x.count(3), 6);
        Check.due("nothing to take back", x.count(8), 0);
        Check.due("no IMAGES", x.count(9), 0);
        Check.due("nothing in an IMAGE", x.image(0, true), false);
        Check.due("undo", x.undo(), -1);
        Check.due("price told anew is gone", x.price(0, 1), 100);
        Check.due("price of the TEXT", x.price(0, 2), 70);
        Check.due("WHEEL", Check.loan(x, 0, 7), 1);
        Check.due("cash", x.cash(0), 10);
        Check.due("another TEXT", Check.read(x, LOAN), 1);
        Check.due("no price of the older TEXT", x.price(0, 2), 100);
        Check.due("no HOLDER of the older TEXT", x.bond(0, 1, 1), -1);
    }

    private static void faultStays() {
        DrawnBonds x = Check.house(BOTH + "holds h a 1 6;");
        x.year();
        x.image(1, false);
        x.wheel(0, 5);
        x.odds(0, 2);
        Check.due("a FAULT", Check.read(x, BOTH + "holds h b 1 1;"), -2 - (8 * (BOTH.length() + 8) + 3));
        Check.due("THE TAPE is empty", x.count(10), 0);
        Check.due("LOANS stay", x.count(0), 1);
        Check.due("YEAR stays", x.count(2), 1);
        Check.due("RETIRED stay", x.count(4), 2);
        Check.due("what can be taken back stays", x.count(8), 2);
        Check.due("IMAGES stay", x.count(9), 1);
        Check.due("what is below stays", x.below(), 2);
        Check.due("HOLDERS of BONDS stay", x.held(0, 0, 0), 4);
        Check.due("undo", x.undo(), 1);
    }

    private static void good(String text, int lines) {
        DrawnBonds x = new DrawnBonds();
        Check.due("text [" + text + "]", Check.read(x, text), lines);
    }

    private static void bad(String text, int place, int kind) {
        DrawnBonds x = new DrawnBonds();
        Check.due("text [" + text + "]", Check.read(x, text), -2 - (8 * place + kind));
    }

    /** The FAULT stands at the last place of a part. */
    private static void badAt(String text, String part, int kind) {
        bad(text, text.lastIndexOf(part), kind);
    }

    private static void tokens() {
        good("", 0);
        good(" \n \n", 0);
        good("loan a bonds6par100coupon5years3even;holder h cash10;holds h a 1 2;", 3);
        good("\n loan\nabcdef\n bonds\n 1 par 1 coupon 0 years 1 end\n;\n", 1);
        good("loan a bonds 00006 par 00100 coupon 00000 years 00003 sink 00001 lapse 00001;", 1);
        good("loan lo bonds 1 par 1 coupon 0 years 1 end;holder loans cash 1;holder pri cash 1;", 3);
    }

    private static void faultOne() {
        bad("x", 0, 1);
        bad(";", 0, 1);
        bad("7", 0, 1);
        bad("even", 0, 1);
        bad("noan a bonds 6", 0, 1);
        badAt("loan a bonds 6 par 1 coupon 1 years 1 aven;", "aven", 1);
        bad("  Loan", 2, 1);
        bad("loan", 4, 1);
        bad("loan  \n", 7, 1);
        bad("loan a", 6, 1);
        bad("\t" + LOAN, 0, 1);
        bad(LOAN.substring(0, LOAN.length() - 1), LOAN.length() - 1, 1);
        badAt("loan loan bonds 6", "loan", 1);
        badAt("loan abcdefg bonds 6", "abcdefg", 1);
        badAt("loan 6 bonds 6", "6 bonds", 1);
        badAt("loan a bond 6", "bond", 1);
        badAt("loan a bondss 6", "bondss", 1);
        badAt("loan a bonds x", "x", 1);
        badAt("loan a bonds -6", "-", 1);
        badAt("loan a bonds 6 par 1 coupon 1 years 1 lapse 1;", "lapse", 1);
        badAt("loan a bonds 6 par 1 coupon 1 years 1;", ";", 1);
        badAt("loan a bonds 6 par 1 coupon 1 years 1 sink;", ";", 1);
        badAt("loan a bonds 6 par 1 coupon 1 years 1 even 5;", "5", 1);
        badAt("loan a bonds 6 par 1 coupon 1 years 1 end lapse;", ";", 1);
        badAt("loan a bonds 6 par 1 coupon 1 years 1 end lapse 5 lapse 6;", "lapse", 1);
        for (String key : "loan bonds par coupon years even end sink lapse holder cash holds prize price".split(" ")) {
            bad("holder " + key + " cash 1;", 7, 1);
            bad(BOTH + "prize " + key + " 1 1;", BOTH.length() + 6, 1);
        }
        badAt(BOTH + "holds 1 a 1 1;", "1 a", 1);
        badAt(BOTH + "holds h abcdefg 1 1;", "abcdefg", 1);
        badAt(BOTH + "holds h a 1;", ";", 1);
        badAt(BOTH + "price a 1 x;", "x", 1);
        badAt(BOTH + ";", ";", 1);
    }

    private static void faultTwo() {
        badAt(LOAN + "holder a cash 1;", "a cash", 2);
        badAt(LOAN + LOAN, "a bonds", 2);
        badAt(HOLDER + "loan h bonds 6", "h bonds", 2);
        badAt(HOLDER + HOLDER, "h cash", 2);
        badAt(BOTH + "prize a 1 5;prize a 2 5;prize a 1 6;", "1 6", 2);
        badAt(BOTH + "price a 3 5;price a 3 6;", "3 6", 2);
        good(BOTH + "price a 3 5;prize a 3 6;", 4);
        badAt(BOTH + "holds h a 2 3;holds h a 1 2;", "2;", 2);
        badAt(BOTH + "holds h a 2 3;holds h a 3 4;", "4;", 2);
        badAt(BOTH + "holds h a 2 3;holds h a 1 6;", "6;", 2);
        badAt(BOTH + "holds h a 2 3;holds h a 3 2;", "2;", 4);
        badAt(BOTH + "holds h a 2 3;holds h a 3 7;", "7;", 4);
        good(BOTH + "holds h a 2 3;holds h a 1 1;holds h a 4 6;", 5);
    }

    private static void faultThree() {
        badAt("holds h a 1 1;", "h a", 3);
        badAt(BOTH + "holds g a 1 1;", "g", 3);
        badAt(BOTH + "holds h b 1 1;", "b 1", 3);
        badAt(BOTH + "holds a h 1 1;", "a h", 3);
        badAt(BOTH + "holds h h 1 1;", "h 1", 3);
        badAt(BOTH + "prize h 1 1;", "h 1", 3);
        badAt(BOTH + "price h 1 1;", "h 1", 3);
        badAt("price a 1 1;" + LOAN, "a 1", 3);
        badAt(LOAN + "price aa 1 1;", "aa", 3);
    }

    private static void faultFour() {
        String[] of = {"bonds", "par", "coupon", "years", "sink", "lapse"};
        int[][] wrong = {{0, 61}, {0, 1000}, {100}, {0, 21}, {0, 100000}, {0, 21}};
        String plain = "loan a bonds 6 par 7 coupon 8 years 9 sink 10 lapse 11;";
        for (int k = 0; k < of.length; k++) {
            for (int number : wrong[k]) {
                String t = plain.replaceAll(of[k] + " [0-9]+", of[k] + " " + number);
                bad(t, t.indexOf(of[k]) + of[k].length() + 1, 4);
            }
        }
        bad("loan a bonds 000006 par 1", 13, 4);
        bad("loan a bonds 99999999999999999999 par 1", 13, 4);
        badAt("holder h cash 100000;", "100000", 4);
        badAt("holder h cash 000000;", "000000", 4);
        badAt(BOTH + "holds h a 0 1;", "0 1;", 4);
        badAt(BOTH + "holds h a 7 7;", "7 7;", 4);
        badAt(BOTH + "holds h a 2 1;", "1;", 4);
        badAt(BOTH + "holds h a 2 7;", "7;", 4);
        badAt(BOTH + "prize a 0 1;", "0 1;", 4);
        badAt(BOTH + "prize a 10 1;", "10 1;", 4);
        badAt(BOTH + "prize a 1 0;", "0;", 4);
        badAt(BOTH + "prize a 1 10000;", "10000;", 4);
        badAt(BOTH + "price a 0 1;", "0 1;", 4);
        badAt(BOTH + "price a 4 1;", "4 1;", 4);
        badAt(BOTH + "price a 1 0;", "0;", 4);
        badAt(BOTH + "price a 1 1000;", "1000;", 4);
    }

    private static void edgesThatCanBe() {
        DrawnBonds x = Check.house("loan a bonds 60 par 999 coupon 99 years 20 sink 99999 lapse 20;"
                + "loan b bonds 1 par 1 coupon 0 years 1 sink 1 lapse 1;holder h cash 99999;holder g cash 0;"
                + "holds h a 1 60;holds g b 1 1;prize a 9 9999;prize a 1 1;price a 20 999;price a 1 1;");
        long[] most = {60, 999, 99, 20, 1, 99999, 20};
        long[] least = {1, 1, 0, 1, 1, 1, 1};
        for (int what = 0; what < 7; what++) {
            Check.due("most " + what, Check.loan(x, 0, what), most[what]);
            Check.due("least " + what, Check.loan(x, 1, what), least[what]);
        }
        Check.due("most cash", x.cash(0), 99999);
        Check.due("least cash", x.cash(1), 0);
        Check.due("held, most", x.held(0, 0, 0), 60);
        Check.due("held, least", x.held(1, 1, 0), 1);
    }

    private static String times(int n, String line) {
        StringBuilder all = new StringBuilder();
        for (int k = 0; k < n; k++) {
            all.append(line.replace("#", "" + (k + 1)).replace("@", "" + (char) ('b' + k)));
        }
        return all.toString();
    }

    private static void faultFive() {
        String many = times(4, "loan @ bonds 1 par 1 coupon 0 years 1 end;");
        good(many, 4);
        bad(many + "loan", many.length(), 5);
        bad(many + " loan b bonds", many.length() + 1, 5);
        many = times(6, "holder @ cash 0;");
        good(many, 6);
        bad(many + "holder", many.length(), 5);
        String wide = "loan a bonds 60 par 1 coupon 0 years 20 end;loan aa bonds 1 par 1 coupon 0 years 5 end;holder h cash 0;";
        many = wide + times(20, "holds h a # #;");
        good(many, 23);
        bad(many + "holds h a 1 1;", many.length(), 5);
        many = wide + times(9, "prize a # 5;") + times(3, "prize aa # 5;");
        good(many, 15);
        bad(many + "prize aa 4 5;", many.length(), 5);
        many = wide + times(20, "price a # 5;") + times(4, "price aa # 5;");
        good(many, 27);
        bad(many + "price aa 5 5;", many.length(), 5);
    }

    private static void leastPlace() {
        // A FAULT of a later place does not count, whatever its kind.
        badAt("holder h cash 100000 A", "100000", 4);
        badAt("holder h cash 5 A;holder h cash 1;", "A", 1);
        badAt(BOTH + "prize b 10 A", "b", 3);
        badAt(BOTH + "prize a 10 A", "10", 4);
        badAt(BOTH + "holds h a 1 3;holds h a 2 2 A", "2 A", 2);
    }
}
