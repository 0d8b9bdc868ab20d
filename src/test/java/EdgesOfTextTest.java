/** "Terms", part 1, and promises 1 to 3: a test for each sentence that names a boundary case. */
public final class EdgesOfTextTest {
    private static final String LOAN = "loan a bonds 7 par 100 coupon 5 years 3 even;";
    private static final String HOLDER = "holder h cash 10;";
    private static final String BOTH = LOAN + HOLDER;
    private static final String[] KEYS = {"loan", "bonds", "par", "coupon", "years", "even", "end", "sink", "lapse", "holder",
        "cash", "holds", "prize", "price"};
    /** Each place at which a NAME must stand, as #. */
    private static final String[] NAME_PLACES = {"loan # bonds 1 par 1 coupon 1 years 1 end;", "holder # cash 1;",
        BOTH + "holds # a 1 1;", BOTH + "holds h # 1 1;", BOTH + "prize # 1 1;", BOTH + "price # 1 1;"};
    private static final int BLANK = 0x20202020;

    public static void main(String[] args) {
        newObject();
        newObjectRefuses();
        feedTwenty();
        feedHighestFirst();
        feedTellsHowMany();
        feedRefused();
        bytesAbove127();
        tapeOf700();
        textOfTheFirstBytes();
        textEmptiesTheTape();
        textNotSoMany();
        textBelowNothing();
        textBegins();
        textOfNoLinesBegins();
        textsOneBehindTheOther();
        textFaultStays();
        textFaultNumber();
        blanks();
        blanksMeanNothing();
        digits();
        standTogether();
        signAlone();
        linesNoneToo();
        signBehindEachLine();
        howManyLines();
        numbers();
        plans();
        lapseWithout();
        holdsOfTheLoan();
        rankAndYear();
        nameLetters();
        nameKeys();
        nearlyKeys();
        namesUnlike();
        toldAhead();
        numberedAsTold();
        faultOfTheLeastPlace();
        faultOfOnePlace();
        faultFirstByte();
        faultTokenWithWhichNoneGoesOn();
        faultNearlyTheWord();
        faultAtTheEnd();
        faultGivenToTwo();
        faultToldAlready();
        faultHeldTwice();
        faultOtherKind();
        faultDigits();
        faultOneTooMany();
        Check.end();
    }

    private static DrawnBonds reads(String text, int lines) {
        DrawnBonds x = new DrawnBonds();
        Check.due("text [" + text + "]", Check.read(x, text), lines);
        return x;
    }

    private static void faults(String text, int place, int kind) {
        DrawnBonds x = new DrawnBonds();
        Check.due("text [" + text + "]", Check.read(x, text), -2 - (8 * place + kind));
    }

    /** The part marked by { and } (which are taken out) is where the FAULT is. */
    private static void faultsAt(String marked, int kind) {
        faults(marked.replace("{", "").replace("}", ""), marked.indexOf('{'), kind);
    }

    private static String times(int n, String line) {
        StringBuilder all = new StringBuilder();
        for (int k = 0; k < n; k++) {
            all.append(line.replace("#", "" + (k + 1)).replace("@", "" + (char) ('b' + k)));
        }
        return all.toString();
    }

    private static void feedBlanks(DrawnBonds x, int times) {
        for (int k = 0; k < times; k++) {
            x.feed(BLANK, BLANK, BLANK, BLANK, BLANK);
        }
    }

    // ---- promise 1

    private static void newObject() {
        Check.about("Promise 1: no LOANS, no HOLDERS, YEAR 0");
        DrawnBonds x = new DrawnBonds();
        for (int what = 0; what <= 10; what++) {
            Check.due("count " + what, x.count(what), 0);
        }
        Check.due("below", x.below(), 1);
    }

    private static void newObjectRefuses() {
        Check.about("Promise 1: with no LOANS and no HOLDERS each call that asks for one is refused");
        DrawnBonds x = new DrawnBonds();
        Check.due("loan", Check.loan(x, 0, 0), Check.THROWN);
        Check.due("bond", x.bond(0, 1, 0), -2);
        Check.due("sell", x.sell(0, 1, 0, 0), false);
        Check.due("image back", x.image(0, true), false);
        long[] none = {x.cash(0), x.held(0, 0, 0), x.standing(0, -1, 1), x.price(0, 1), x.claim(0, 0), x.put(0, 1), x.priced(0, 1, 1),
            x.wheel(0, 1), x.undo(), x.row(0, 1, 0), x.toPay(0), x.odds(0, 1), x.worth(0, 0), x.life(0), x.half(0), x.yields(0, 1),
            x.atLeast(0, 0, 0), x.lasting(0, 0), x.ifPrice(0, 1, 1, 1), x.needs(0, 1), x.lot(0, 1, 0), x.replayed(0, 1, 0),
            x.lastOne(0, -1), x.mean(0), x.paid(0, 0)};
        for (int k = 0; k < none.length; k++) {
            Check.due("call " + k, none[k], -1);
        }
        Check.due("unlucky -1", x.unlucky(-1), 0);
        Check.due("unlucky 0", x.unlucky(0), -2);
        Check.due("a YEAR passes all the same", x.year(), 0);
        Check.due("YEAR", x.count(2), 1);
        Check.due("lot of it", x.lot(0, 1, 0), -1);
    }

    // ---- promise 2

    private static void feedTwenty() {
        Check.about("Promise 2: twenty bytes come behind THE TAPE");
        DrawnBonds x = new DrawnBonds();
        Check.feed(x, "holder h cash 1;    ");
        Check.feed(x, "holder g cash 2;    ");
        Check.due("the second twenty stand behind the first", x.text(36), 2);
        Check.due("first", x.cash(0), 1);
        Check.due("second", x.cash(1), 2);
    }

    private static void feedHighestFirst() {
        Check.about("Promise 2: of each number the highest first");
        for (int place = 0; place < 20; place++) {
            int[] f = {BLANK, BLANK, BLANK, BLANK, BLANK};
            int shift = 24 - place % 4 * 8;
            f[place / 4] = f[place / 4] & ~(255 << shift) | 'A' << shift;
            DrawnBonds x = new DrawnBonds();
            x.feed(f[0], f[1], f[2], f[3], f[4]);
            Check.due("a byte that begins no TOKEN at " + place, x.text(20), -2 - (8 * place + 1));
        }
    }

    private static void feedTellsHowMany() {
        Check.about("Promise 2: how many it has");
        DrawnBonds x = new DrawnBonds();
        for (int k = 1; k <= 35; k++) {
            Check.due("feed " + k, x.feed(k, -k, 0, Integer.MIN_VALUE, Integer.MAX_VALUE), 20 * k);
            Check.due("count 10", x.count(10), 20 * k);
        }
    }

    private static void feedRefused() {
        Check.about("Promise 2: NONE, and none come, if it would have more than 700");
        DrawnBonds x = new DrawnBonds();
        feedBlanks(x, 34);
        Check.due("680", x.count(10), 680);
        // The last twenty bytes hold a LINE that bytes which came on would spoil.
        Check.feed(x, "    holder h cash 1;");
        Check.due("700", x.count(10), 700);
        Check.unchanged(x, "feed refused", () -> {
            Check.due("720 would be too many", x.feed(0, 0, 0, 0, 0), -1);
            Check.due("again", x.feed(-1, -1, -1, -1, -1), -1);
        });
        Check.due("the text is as it was", x.text(700), 1);
        Check.due("from the first on", x.feed(BLANK, BLANK, BLANK, BLANK, BLANK), 20);
    }

    private static void bytesAbove127() {
        Check.about("Promise 2: bytes from 128 to 255 are bytes too");
        for (int b = 128; b <= 255; b++) {
            DrawnBonds x = new DrawnBonds();
            x.feed(b << 24, b << 24, BLANK, BLANK, BLANK);
            Check.due("byte " + b, x.text(20), -2 - 1);
        }
    }

    private static void tapeOf700() {
        Check.about("Part 1: THE TAPE has 700 bytes");
        String line = "holder h cash 1";
        String filled = " ".repeat(700 - line.length() - 1) + line;
        reads(filled + ";", 1);
        faults(filled + "A", 699, 1);
        faults(filled + " ", 700, 1);
    }

    // ---- promise 3

    private static void textOfTheFirstBytes() {
        Check.about("Promise 3: the first n bytes of THE TAPE are the TEXT");
        String t = BOTH + "loan b bonds 9 par 99 coupon 0 years 5 sink 50 lapse 3 ;\nholds h b 1 3; prize b 2 70;price b 4 90;";
        for (int n = 0; n <= t.length(); n++) {
            DrawnBonds x = new DrawnBonds();
            Model m = new Model();
            Check.feed(x, t);
            for (int at = 0; at < t.length(); at += 20) {
                int[] f = new int[5];
                for (int k = 0; k < 20; k++) {
                    f[k / 4] = f[k / 4] << 8 | (at + k < t.length() ? t.charAt(at + k) : 32);
                }
                m.feed(f);
            }
            Check.due("text " + n + " of [" + t + "]", x.text(n), m.text(n));
            Check.due("LOANS of " + n, x.count(0), m.count(0));
        }
        DrawnBonds x = new DrawnBonds();
        Check.feed(x, BOTH);
        Check.due("the byte behind them does not count", x.text(LOAN.length()), 1);
        Check.feed(x, "holder h cash 12345;");
        Check.due("not even as a digit", x.text(16), -2 - (8 * 16 + 1));
    }

    private static void textEmptiesTheTape() {
        Check.about("Promise 3: it is empty then");
        DrawnBonds x = new DrawnBonds();
        Check.feed(x, BOTH);
        x.text(LOAN.length());
        Check.due("count 10", x.count(10), 0);
        Check.due("nothing is left", x.text(1), -1);
        Check.feed(x, BOTH);
        Check.due("none of it", x.text(0), 0);
        Check.due("count 10", x.count(10), 0);
        Check.feed(x, "even");
        Check.due("a FAULT", x.text(20), -2 - 1);
        Check.due("count 10", x.count(10), 0);
    }

    private static void textNotSoMany() {
        Check.about("Promise 3: NONE: it has not so many (THE TAPE stays)");
        DrawnBonds x = Check.house(BOTH + "holds h a 1 7;");
        x.year();
        x.image(0, false);
        x.odds(0, 2);
        Check.feed(x, HOLDER);
        Check.unchanged(x, "text of too many", () -> {
            Check.due("one too many", x.text(21), -1);
            Check.due("701", x.text(701), -1);
            Check.due("most", x.text(Integer.MAX_VALUE), -1);
        });
        Check.due("as many as it has", x.text(20), 1);
        Check.due("one, of an empty one", x.text(1), -1);
        Check.due("none, of an empty one", x.text(0), 0);
    }

    private static void textBelowNothing() {
        Check.about("Promise 3: NONE: n is below 0 (THE TAPE stays)");
        DrawnBonds x = Check.house(BOTH);
        x.year();
        Check.feed(x, HOLDER);
        Check.unchanged(x, "text below 0", () -> {
            Check.due("-1", x.text(-1), -1);
            Check.due("least", x.text(Integer.MIN_VALUE), -1);
        });
        Check.due("0", x.text(0), 0);
    }

    private static void textBegins() {
        Check.about("Promise 3: YEAR 0, all BONDS STAND, no IMAGES, nothing can be taken back");
        String t = BOTH + "holds h a 1 6;price a 2 70;loan s bonds 2 par 9 coupon 0 years 4 sink 9;";
        String fresh = Check.seen(Check.house(t));
        DrawnBonds x = Check.house(t);
        x.priced(0, 3, 50);
        x.put(1, 5);
        x.wheel(0, 99);
        Check.years(x, 3);
        x.claim(0, 0);
        x.image(0, false);
        x.image(1, false);
        Check.due("again", Check.read(x, t), 5);
        Check.same("the same TEXT again", Check.seen(x), fresh);
        Check.due("image 0 back", x.image(0, true), false);
        Check.due("image 1 back", x.image(1, true), false);
        Check.due("undo", x.undo(), -1);
    }

    private static void textOfNoLinesBegins() {
        Check.about("Promise 3: a TEXT of no LINES: no LOANS, no HOLDERS, YEAR 0, no IMAGES, nothing can be taken back");
        String fresh = Check.seen(new DrawnBonds());
        for (String blank : new String[] {"", " \n"}) {
            DrawnBonds x = Check.house(BOTH);
            x.year();
            x.image(0, false);
            Check.due("text", Check.read(x, blank), 0);
            Check.same("a TEXT of no LINES", Check.seen(x), fresh);
            Check.due("image back", x.image(0, true), false);
        }
    }

    private static void textsOneBehindTheOther() {
        Check.about("Promise 3: each TEXT is told anew, however many were, with and without FAULTS");
        String sink = "loan b bonds 3 par 5 coupon 0 years 2 sink 9 lapse 1;";
        String[] texts = {BOTH + "holds h a 1 7;prize a 1 5;price a 1 7;", sink + "prize b 3 9;price b 2 4;holder h cash 3;holds h b 2 3;", BOTH,
            sink.replace("sink 9 lapse 1", "even") + HOLDER};
        String[] want = new String[texts.length];
        for (int k = 0; k < texts.length; k++) {
            DrawnBonds alone = Check.house(texts[k]);
            want[k] = Check.seen(alone) + " toPay=" + alone.toPay(0);
        }
        for (int first = 0; first < texts.length; first++) {
            DrawnBonds x = new DrawnBonds();
            for (int k = 0; k < 3; k++) {
                Check.read(x, texts[first]);
                x.year();
                Check.read(x, texts[(first + k) % texts.length] + "?");
                x.put(0, 5);
            }
            int then = (first + 1) % texts.length;
            Check.read(x, texts[then]);
            Check.same("many TEXTS", Check.seen(x) + " toPay=" + x.toPay(0), want[then]);
        }
        // So many LINES of each kind that those of the TEXTS ahead must not count.
        DrawnBonds x = new DrawnBonds();
        String wide = "loan a bonds60par1coupon0years20end;loan c bonds1par1coupon0years5end;holder h cash 0;";
        String[] full = {times(4, "loan @ bonds 1 par 1 coupon 0 years 1 end;"), times(6, "holder @ cash 0;"), wide + times(20, "holds h a # #;"),
            wide + times(9, "prize a # 5;") + times(3, "prize c # 5;"), wide + times(20, "price a # 5;") + times(4, "price c # 5;")};
        for (int round = 0; round < 3; round++) {
            for (String text : full) {
                Check.due("as many LINES as can be, round " + round, Check.read(x, text), text.split(";").length);
            }
        }
    }

    private static void textFaultStays() {
        Check.about("Promise 3: a FAULT (all else stays)");
        String[] bad = {"even;", BOTH + HOLDER, BOTH + "holds h b 1 1;", "loan a bonds 61", times(6, "holder @ cash 7;") + "holder", ""};
        for (int k = 0; k < bad.length - 1; k++) {
            DrawnBonds x = Check.house(BOTH + "holds h a 1 7;prize a 1 5;price a 2 70;");
            x.year();
            x.image(1, false);
            x.wheel(0, 5);
            x.odds(0, 2);
            String before = Check.seen(x);
            Check.due("a FAULT of kind " + (k + 1), -2 - Check.read(x, bad[k]) & 7, k + 1);
            Check.same("a FAULT of kind " + (k + 1), Check.seen(x), before);
            Check.due("what was done can be taken back", x.undo(), 1);
            Check.due("IMAGE 1 holds", x.image(1, true), true);
        }
    }

    private static void textFaultNumber() {
        Check.about("Promise 3: -2 less (8 * place + kind)");
        faults("x", 0, 1);
        Check.due("the greatest that there can be", reads0(), -2 - (8 * 700 + 1));
    }

    private static int reads0() {
        DrawnBonds x = new DrawnBonds();
        Check.feed(x, "loan" + " ".repeat(696));
        return x.text(700);
    }

    // ---- part 1: tokens

    private static void blanks() {
        Check.about("Part 1: blanks, 32, 10, part TOKENS; WORDS of small letters");
        for (int b = 0; b <= 255; b++) {
            String t = "holder a" + (char) b + "b cash 1;";
            if (b >= 'a' && b <= 'z') {
                reads(t, 1);
            } else {
                faults(t, b == 32 || b == 10 ? 9 : 8, 1);
            }
        }
    }

    private static void blanksMeanNothing() {
        Check.about("Part 1: blanks mean nothing else");
        reads(" ", 0);
        reads("\n", 0);
        reads(" \n\n  " + BOTH + " \n ", 2);
        reads(BOTH.replace(" ", "\n"), 2);
        reads(BOTH.replace(" ", " \n \n ").replace(";", "\n;"), 2);
    }

    private static void digits() {
        Check.about("Part 1: NUMBERS of digits");
        for (int b = 0; b <= 255; b++) {
            String t = "holder a cash 1" + (char) b + ";";
            if (b >= '0' && b <= '9') {
                Check.due("cash", reads(t, 1).cash(0), 10 + b - '0');
            } else if (b == 32 || b == 10) {
                Check.due("cash", reads(t, 1).cash(0), 1);
            } else {
                faults(t, b == ';' ? 16 : 15, 1);
            }
        }
    }

    private static void standTogether() {
        Check.about("Part 1: each that stand together");
        reads("loan a bonds7par100coupon5years3sink9lapse4;holder h cash10;", 2);
        faultsAt("holder a {b} cash 1;", 1);
        faultsAt("holder a ca{} sh 1;".replace("ca{}", "{ca}"), 1);
        faultsAt("holder acash {1};", 1);
        faultsAt("holder a cash 1 {2};", 1);
        faultsAt("{holdera} cash 1;", 1);
    }

    private static void signAlone() {
        Check.about("Part 1: the sign ; alone");
        reads("holder a cash 1;holder b cash 2;", 2);
        faultsAt("holder a cash 1;{;}", 1);
        faultsAt("{;}", 1);
        faultsAt("holder a;".replace(";", "{;}"), 1);
    }

    private static void linesNoneToo() {
        Check.about("Part 1: any number of LINES, none too");
        reads("", 0);
        reads(HOLDER, 1);
        reads(times(6, "holder @ cash 0;") + "loan a bonds 60 par 1 coupon 0 years 9 end;" + times(20, "holds b a # #;"), 27);
    }

    private static void signBehindEachLine() {
        Check.about("Part 1: each with ; behind it");
        faultsAt("holder a cash 1{}", 1);
        faultsAt("holder a cash 1 {holder} b cash 1;", 1);
        faultsAt("loan a bonds 1 par 1 coupon 1 years 1 even {loan}", 1);
        faultsAt(BOTH + "holds h a 1 1 {prize} a 1 1;", 1);
        faultsAt(BOTH + "prize a 1 1 {price}", 1);
        faultsAt(BOTH + "price a 1 1{}", 1);
    }

    private static void howManyLines() {
        Check.about("Part 1: 4, 6, 20, 12, 24 at most");
        String wide = "loan a bonds 60 par 1 coupon 0 years 20 end;loan aa bonds 1 par 1 coupon 0 years 5 end;holder h cash 0;";
        reads(times(4, "loan @ bonds 1 par 1 coupon 0 years 1 end;"), 4);
        reads(times(6, "holder @ cash 0;"), 6);
        reads(wide + times(20, "holds h a # #;"), 23);
        reads(wide + times(9, "prize a # 5;") + times(3, "prize aa # 5;"), 15);
        reads(wide + times(20, "price a # 5;") + times(4, "price aa # 5;"), 27);
    }

    /** A NUMBER stands as #; the ones next to its range can't be, those at its ends can. */
    private static void range(String name, String text, int least, int most) {
        Check.about("Part 1: " + name + " " + least + " to " + most);
        int at = text.indexOf('#');
        int lines = text.split(";").length;
        if (least > 0) {
            faults(text.replace("#", "" + (least - 1)), at, 4);
            faults(text.replace("#", "0"), at, 4);
        }
        faults(text.replace("#", "" + (most + 1)), at, 4);
        faults(text.replace("#", "99999" + "9"), at, 4);
        reads(text.replace("#", "" + least), lines);
        reads(text.replace("#", "" + most), lines);
        String five = "0000" + least;
        reads(text.replace("#", five.substring(five.length() - 5)), lines);
        faults(text.replace("#", "00000" + least), at, 4);
        faults(text.replace("#", "-1"), at, 1);
    }

    private static void numbers() {
        range("BONDS", "loan a bonds # par 7 coupon 8 years 9 even;", 1, 60);
        range("par", "loan a bonds 6 par # coupon 8 years 9 even;", 1, 999);
        range("coupon", "loan a bonds 6 par 7 coupon # years 9 even;", 0, 99);
        range("years", "loan a bonds 6 par 7 coupon 8 years # even;", 1, 20);
        range("sink", "loan a bonds 6 par 7 coupon 8 years 9 sink #;", 1, 99999);
        range("lapse", "loan a bonds 6 par 7 coupon 8 years 9 sink 5 lapse #;", 1, 20);
        range("cash", "holder h cash #;", 0, 99999);
        range("the first of holds", BOTH + "holds h a # 7;", 1, 7);
        range("the second of holds", BOTH + "holds h a 3 #;", 3, 7);
        range("a RANK", BOTH + "prize a # 5;", 1, 9);
        range("the sum of a prize", BOTH + "prize a 1 #;", 1, 9999);
        range("a YEAR of the LOAN", BOTH + "price a # 5;", 1, 3);
        range("the sum of a price", BOTH + "price a 1 #;", 1, 999);
        Check.about("Part 1: the least and the greatest NUMBERS are what is told");
        DrawnBonds x = reads("loan a bonds 60 par 999 coupon 99 years 20 sink 99999 lapse 20;loan b bonds 1 par 1 coupon 0 years 1 sink 1 lapse 1;"
                + "holder h cash 99999;holder g cash 0;prize a 9 9999;prize b 1 1;price a 20 999;price a 1 1;", 8);
        long[] most = {60, 999, 99, 20, 1, 99999, 20};
        long[] least = {1, 1, 0, 1, 1, 1, 1};
        for (int what = 0; what < 7; what++) {
            Check.due("most " + what, Check.loan(x, 0, what), most[what]);
            Check.due("least " + what, Check.loan(x, 1, what), least[what]);
        }
        Check.due("most cash", x.cash(0), 99999);
        Check.due("least cash", x.cash(1), 0);
        Check.due("least price", x.price(0, 1), 1);
        Check.due("most price", x.price(0, 20), 999);
        // The LOAN b pays 1 and the prize; a pays all its BONDS for 1 in the first year.
        Check.due("least prize", x.toPay(1), 2);
        Check.due("a is bought in the first year", x.toPay(0), 60 * 99 + 60);
        x.priced(0, 1, 999);
        Check.due("most prize", x.toPay(0), 60 * 99 + 60 * 999 + 9999);
    }

    private static void plans() {
        Check.about("Part 1: PLAN: even, end, or sink NUMBER");
        String t = "loan a bonds 6 par 7 coupon 8 years 9 ";
        Check.due("even", Check.loan(reads(t + "even;", 1), 0, 4), 0);
        Check.due("sink", Check.loan(reads(t + "sink 5;", 1), 0, 4), 1);
        Check.due("end", Check.loan(reads(t + "end;", 1), 0, 4), 2);
        Check.due("no sum told", Check.loan(reads(t + "even;", 1), 0, 5), 0);
        faultsAt(t + "{;}", 1);
        faultsAt(t + "{lapse} 3;", 1);
        faultsAt(t + "{bonds};", 1);
        faultsAt(t + "{ends};", 1);
        faultsAt(t + "{5};", 1);
        faultsAt(t + "sink{;}", 1);
        faultsAt(t + "sink {lapse} 3;", 1);
        faultsAt(t + "even {5};", 1);
        faultsAt(t + "end {even};", 1);
    }

    private static void lapseWithout() {
        Check.about("Part 1: lapse 1 to 20, 20 without");
        String t = "loan a bonds 6 par 7 coupon 8 years 9 ";
        for (String plan : new String[] {"even", "end", "sink 5"}) {
            Check.due("without, " + plan, Check.loan(reads(t + plan + ";", 1), 0, 6), 20);
            Check.due("with 1, " + plan, Check.loan(reads(t + plan + " lapse 1;", 1), 0, 6), 1);
            Check.due("with 20, " + plan, Check.loan(reads(t + plan + " lapse 20;", 1), 0, 6), 20);
        }
        faultsAt(t + "even lapse{;}", 1);
        faultsAt(t + "even lapse 3 {lapse} 4;", 1);
        Check.due("one LOAN's lapse is not the next one's", Check.loan(reads(t + "end lapse 2;" + t.replace(" a ", " b ") + "end;", 2), 1, 6), 20);
    }

    private static void holdsOfTheLoan() {
        Check.about("Part 1: holds: the first to the second, both of the LOAN's BONDS, not above it");
        String two = BOTH + "loan b bonds 9 par 1 coupon 0 years 1 end;";
        DrawnBonds x = reads(two + "holds h a 2 4;holds h b 9 9;", 5);
        for (int n = 1; n <= 7; n++) {
            Check.due("holder of " + n, x.bond(0, n, 1), n >= 2 && n <= 4 ? 0 : -1);
        }
        Check.due("9 of b", x.bond(1, 9, 1), 0);
        Check.due("8 of b", x.bond(1, 8, 1), -1);
        reads(two + "holds h a 7 7;", 4);
        faultsAt(two + "holds h a {8} 8;", 4);
        faultsAt(two + "holds h a 7 {8};", 4);
        faultsAt(two + "holds h b 9 {10};", 4);
        faultsAt(two + "holds h a 4 {3};", 4);
        reads(two + "holds h a 4 4;", 4);
    }

    private static void rankAndYear() {
        Check.about("Part 1: a YEAR of the LOAN, from 1 on");
        String two = BOTH + "loan b bonds 9 par 50 coupon 0 years 20 end;";
        reads(two + "price a 3 5;price b 20 5;price b 4 5;", 6);
        faultsAt(two + "price a {4} 5;", 4);
        faultsAt(two + "price b {21} 5;", 4);
        faultsAt(two + "price a {0} 5;", 4);
    }

    private static void nameLetters() {
        Check.about("Part 1: NAMES are WORDS of 1 to 6 letters");
        DrawnBonds x = reads("loan abcdef bonds 7 par 1 coupon 1 years 1 end;holder zzzzzz cash 1;holds zzzzzz abcdef 1 7;prize abcdef 1 1;price abcdef 1 1;", 5);
        Check.due("held", x.held(0, 0, 0), 7);
        reads("loan z bonds 7 par 1 coupon 1 years 1 end;holder a cash 1;", 2);
        for (String place : NAME_PLACES) {
            faults(place.replace("#", "abcdefg"), place.indexOf('#'), 1);
            faults(place.replace("#", "zzzzzzzzzzzzzz"), place.indexOf('#'), 1);
            faults(place.replace("#", "7"), place.indexOf('#'), 1);
            faults(place.replace("#", ";"), place.indexOf('#'), 1);
        }
    }

    private static void nameKeys() {
        Check.about("Part 1: NAMES are WORDS but loan, bonds, .. price");
        for (String key : KEYS) {
            for (String place : NAME_PLACES) {
                faults(place.replace("#", key), place.indexOf('#'), 1);
            }
        }
    }

    private static void nearlyKeys() {
        Check.about("Part 1: other WORDS than those fourteen are NAMES");
        for (String near : new String[] {"loa", "loans", "bond", "pa", "pars", "year", "eve", "evens", "en", "ends", "sin", "sinks", "laps",
            "lapses", "hold", "cas", "cashs", "priz", "prizes", "pric", "prices", "coupo", "holde", "xlapse"}) {
            reads("loan " + near + " bonds 7 par 1 coupon 1 years 1 end;prize " + near + " 1 1;", 2);
            reads("holder " + near + " cash 1;", 1);
        }
    }

    private static void namesUnlike() {
        Check.about("Part 1: no two NAMES are alike");
        String end = " bonds 7 par 1 coupon 1 years 1 end;";
        faultsAt("loan q" + end + "loan {q}" + end, 2);
        faultsAt("loan q" + end + "holder {q} cash 1;", 2);
        faultsAt("holder q cash 1;loan {q}" + end, 2);
        faultsAt("holder q cash 1;holder {q} cash 1;", 2);
        faultsAt("holder abcdef cash 1;holder z cash 1;holder {abcdef} cash 1;", 2);
        reads("holder abcdef cash 1;holder abcdeg cash 1;holder bbcdef cash 1;holder abcde cash 1;holder a cash 1;holder aa cash 1;", 6);
        reads("loan zzzzzz" + end + "loan zzzzzy" + end + "loan azzzzz" + end + "loan az" + end, 4);
    }

    private static void toldAhead() {
        Check.about("Part 1: LOANS, HOLDERS are told ahead of where they stand");
        reads(LOAN + HOLDER + "holds h a 1 1;", 3);
        reads(HOLDER + LOAN + "holds h a 1 1;", 3);
        faultsAt(LOAN + "holds {h} a 1 1;" + HOLDER, 3);
        faultsAt(HOLDER + "holds h {a} 1 1;" + LOAN, 3);
        faultsAt("prize {a} 1 1;" + LOAN, 3);
        faultsAt("price {a} 1 1;" + LOAN, 3);
    }

    private static void numberedAsTold() {
        Check.about("Part 1: LOANS, HOLDERS are numbered as told, from 0 on; BONDS of a LOAN from 1 on");
        DrawnBonds x = reads("holder z cash 5;loan y bonds 2 par 1 coupon 0 years 1 end;holder b cash 6;loan c bonds 3 par 1 coupon 0 years 1 end;"
                + "loan a bonds 4 par 1 coupon 0 years 1 end;", 5);
        for (int l = 0; l < 3; l++) {
            Check.due("BONDS of " + l, Check.loan(x, l, 0), l + 2);
            Check.due("the first", x.bond(l, 1, 0), 0);
            Check.due("the last", x.bond(l, l + 2, 0), 0);
            Check.due("ahead of the first", x.bond(l, 0, 0), -2);
            Check.due("behind the last", x.bond(l, l + 3, 0), -2);
        }
        Check.due("cash of 0", x.cash(0), 5);
        Check.due("cash of 1", x.cash(1), 6);
    }

    // ---- part 1: faults

    private static void faultOfTheLeastPlace() {
        Check.about("Part 1: FAULTS, the one whose place is least");
        String base = times(4, "loan @ bonds 7 par 9 coupon 1 years 3 end;") + HOLDER;
        String[] bad = {"{even};", "holder {h} cash 1;", "price {z} 1 1;", "price b {0} 1;", "{loan} f bonds 1 par 1 coupon 0 years 1 end;"};
        for (int first = 0; first < 5; first++) {
            for (int second = 0; second < 5; second++) {
                String t = base + bad[first] + bad[second];
                faults(t.replaceAll("[{}]", ""), t.indexOf('{'), first + 1);
            }
        }
        // Within one LINE, too.
        faultsAt(BOTH + "holds {g} b 0 A", 3);
        faultsAt(BOTH + "holds h a {0} A", 4);
        faultsAt(BOTH + "holder {h} cash 100000 ?", 2);
        faultsAt(times(6, "holder @ cash 1;") + "{holder} b cash 100000 ?", 5);
        faultsAt(times(6, "holder @ cash 1;") + "{?}holder b", 1);
    }

    private static void faultOfOnePlace() {
        Check.about("Part 1: of one place the one that stands first here");
        String held = BOTH + "holds h a 3 5;";
        faultsAt(held + "holds h a 4 {4};", 2);
        faultsAt(held + "holds h a 4 {3};", 4);
        faultsAt(held + "holds h a 4 {8};", 4);
        faultsAt(held + "holds h a 4 {000004};", 4);
        faultsAt(BOTH + "prize a 1 5;prize a {1} 0;", 2);
        faultsAt(BOTH + "prize a 1 5;prize a {00001} 5;", 2);
        // A NUMBER of more than 5 digits is no RANK, no YEAR.
        faultsAt(BOTH + "prize a 1 5;prize a {000001} 5;", 4);
        faultsAt(BOTH + "price a 1 5;price a {000001} 5;", 4);
    }

    private static void faultFirstByte() {
        Check.about("Part 1: 1: the first byte that begins no TOKEN");
        faultsAt("{?}", 1);
        faultsAt("  {?} ! ?", 1);
        faultsAt(BOTH + "{A}B", 1);
        faultsAt("holder h cash 1{.}5;", 1);
        faultsAt("holder h{_}g cash 1;", 1);
        faultsAt("holder {H} cash 1;", 1);
        faultsAt("\t".replace("\t", "{\t}") + BOTH, 1);
        faultsAt(BOTH + "{\r}\n", 1);
        faultsAt(BOTH + "{\0}", 1);
    }

    private static void faultTokenWithWhichNoneGoesOn() {
        Check.about("Part 1: 1: the TOKEN with which no TEXT goes on");
        String loan = "loan a bonds 6 par 7 coupon 8 years 9 sink 5 lapse 3;";
        String holder = "holder h cash 1;";
        for (String line : new String[] {loan, loan + holder + "holds h a 1 2;", loan + holder + "prize a 1 2;", loan + holder + "price a 1 2;"}) {
            String[] parts = line.replace(";", " ;").split(" ");
            StringBuilder ahead = new StringBuilder();
            for (String part : parts) {
                // A WORD that is too long for a NAME goes on nowhere, nor does a byte that is no TOKEN.
                faults(ahead + "wwwwwww", ahead.length(), 1);
                faults(ahead + "?", ahead.length(), 1);
                ahead.append(part).append(' ');
            }
        }
    }

    private static void faultNearlyTheWord() {
        Check.about("Part 1: 1: a WORD that is nearly the one that must stand");
        String loan = "loan a bonds 6 par 7 coupon 8 years 9 even lapse 3;";
        String[] lines = {loan, loan.replace("even", "end"), loan.replace("even", "sink 5"), "holder h cash 1;", BOTH + "holds h a 1 2;", BOTH + "prize a 1 2;",
            BOTH + "price a 1 2;"};
        for (String line : lines) {
            for (String key : KEYS) {
                int at = line.lastIndexOf(key + " ") < 0 ? line.lastIndexOf(key + ";") : line.lastIndexOf(key + " ");
                if (at < 0) {
                    continue;
                }
                int end = at + key.length();
                for (String near : new String[] {"q" + key.substring(1), key.substring(0, key.length() - 1) + "q", key + "q", "q" + key,
                    key.substring(1), key.substring(0, key.length() - 1)}) {
                    faults(line.substring(0, at) + near + line.substring(end), at, 1);
                }
            }
        }
    }

    private static void faultAtTheEnd() {
        Check.about("Part 1: 1: the end: how many bytes there are");
        faults("loan", 4, 1);
        faults("loan ", 5, 1);
        faults("loan\n\n\n", 7, 1);
        faults(BOTH + "holds h a 1 1", BOTH.length() + 13, 1);
        faults(BOTH + "holds h a 1 1 ", BOTH.length() + 14, 1);
        DrawnBonds x = new DrawnBonds();
        Check.feed(x, BOTH);
        Check.due("of the TEXT, not of THE TAPE", x.text(LOAN.length() - 1), -2 - (8 * (LOAN.length() - 1) + 1));
    }

    private static void faultGivenToTwo() {
        Check.about("Part 1: 2: a NAME that is given to two (at the second)");
        faultsAt(BOTH + "  holder\n{h} cash 1;", 2);
        faultsAt(BOTH + "loan {h} ?", 2);
        faultsAt(BOTH + "loan {a}", 2);
    }

    private static void faultToldAlready() {
        Check.about("Part 1: 2: a RANK, a YEAR that is told of that LOAN already, at it");
        String two = BOTH + "loan b bonds 9 par 50 coupon 0 years 20 end;";
        for (int rank = 1; rank <= 9; rank++) {
            faultsAt(two + "prize a " + rank + " 5;prize b " + rank + " 5;prize a {" + rank + "} 6;", 2);
        }
        for (int year = 1; year <= 3; year++) {
            faultsAt(two + "price a " + year + " 5;price b " + year + " 5;price a {" + year + "} 6;", 2);
        }
        faultsAt(two + "price b 20 5;price b {20} 5;", 2);
        reads(two + "price a 1 5;prize a 1 5;price b 1 5;prize b 1 5;", 7);
    }

    private static void faultHeldTwice() {
        Check.about("Part 1: 2: a second NUMBER of holds by which a BOND would be held twice, at it");
        String held = BOTH + "holder g cash 0;loan b bonds 7 par 1 coupon 0 years 1 end;holds h a 3 5;";
        for (String who : new String[] {"h", "g"}) {
            faultsAt(held + "holds " + who + " a 1 {3};", 2);
            faultsAt(held + "holds " + who + " a 5 {7};", 2);
            faultsAt(held + "holds " + who + " a 4 {4};", 2);
            faultsAt(held + "holds " + who + " a 1 {7};", 2);
            faultsAt(held + "holds " + who + " a 3 {5};", 2);
            reads(held + "holds " + who + " a 1 2;holds " + who + " a 6 7;", 7);
            reads(held + "holds " + who + " b 3 5;", 6);
        }
    }

    private static void faultOtherKind() {
        Check.about("Part 1: 3: a NAME that is none told (or of the other kind), at it");
        faultsAt(BOTH + "holds {x} a 1 1;", 3);
        faultsAt(BOTH + "holds h {x} 1 1;", 3);
        faultsAt(BOTH + "prize {x} 1 1;", 3);
        faultsAt(BOTH + "price {x} 1 1;", 3);
        faultsAt(BOTH + "holds {a} a 1 1;", 3);
        faultsAt(BOTH + "holds h {h} 1 1;", 3);
        faultsAt(BOTH + "prize {h} 1 1;", 3);
        faultsAt(BOTH + "price {h} 1 1;", 3);
        faultsAt(BOTH + "holds {hh} a 1 1;", 3);
        faultsAt(BOTH + "price {aa} 1 1;", 3);
    }

    private static void faultDigits() {
        Check.about("Part 1: 4: a NUMBER that can't be, at its first digit; also one of more than 5 digits");
        faultsAt("holder h cash \n {100000};", 4);
        faultsAt("holder h cash {999999};", 4);
        faultsAt("holder h cash {000000};", 4);
        faultsAt("holder h cash {000007};", 4);
        // 2 to the 32 and 2 to the 64, and 7 more, wrap around to 7.
        faultsAt("holder h cash {4294967303};", 4);
        faultsAt("holder h cash {18446744073709551623};", 4);
        faultsAt("holder h cash {" + "0".repeat(600) + "};", 4);
        Check.due("five digits", reads("holder h cash 00007;", 1).cash(0), 7);
        Check.due("five nines", reads("holder h cash 99999;", 1).cash(0), 99999);
    }

    private static void faultOneTooMany() {
        Check.about("Part 1: 5: one too many: a LINE's first word");
        String wide = "loan a bonds 60 par 1 coupon 0 years 20 end;loan aa bonds 1 par 1 coupon 0 years 5 end;holder h cash 0;";
        String[] full = {times(4, "loan @ bonds 1 par 1 coupon 0 years 1 end;"), times(6, "holder @ cash 0;"), wide + times(20, "holds h a # #;"),
            wide + times(9, "prize a # 5;") + times(3, "prize aa # 5;"), wide + times(20, "price a # 5;") + times(4, "price aa # 5;")};
        String[] more = {"loan q bonds 1 par 1 coupon 0 years 1 end;", "holder q cash 0;", "holds h a 21 21;", "prize aa 4 5;", "price aa 5 5;"};
        for (int k = 0; k < 5; k++) {
            faultsAt(full[k] + "{" + more[k].replaceFirst(" ", "} "), 5);
            faultsAt(full[k] + " \n{" + more[k].replaceFirst(" ", "} "), 5);
            // The rest of the LINE does not count.
            faultsAt(full[k] + "{" + more[k].split(" ")[0] + "}", 5);
        }
    }
}
