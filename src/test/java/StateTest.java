/** Promises 4 to 10: count, loan, cash, held, bond, standing, price. */
public final class StateTest {
    private static final String TEXT = "loan a bonds 6 par 100 coupon 5 years 3 even lapse 1;"
            + "loan b bonds 4 par 80 coupon 3 years 4 sink 90;"
            + "loan c bonds 2 par 50 coupon 1 years 2 end lapse 7;"
            + "holder h cash 10;holder g cash 20;"
            + "holds h a 1 3;holds g a 5 5;holds g b 1 4;prize a 1 50;price b 1 30;price c 1 10;price a 2 120;";

    public static void main(String[] args) {
        counts();
        loans();
        cashAndHeld();
        bonds();
        standing();
        prices();
        Check.end();
    }

    private static void counts() {
        DrawnBonds x = Check.house(TEXT);
        long[] first = {3, 2, 0, 12, 0, 0, 0, 0, 0, 0, 0};
        for (int what = 0; what <= 10; what++) {
            Check.due("count " + what, x.count(what), first[what]);
        }
        for (int what : new int[] {-1, 11, Integer.MIN_VALUE, Integer.MAX_VALUE}) {
            Check.due("count " + what, x.count(what), -1);
        }
        // a: 2 of 6 drawn; b: 90 - 12 = 78 buys 2 for 30; c: none.
        Check.due("year 1", x.year(), 4);
        x.image(1, false);
        x.feed(0, 0, 0, 0, 0);
        long[] second = {3, 2, 1, 8, 2, 0, 2, 0, 1, 1, 20};
        for (int what = 0; what <= 10; what++) {
            Check.due("count " + what + " in 1", x.count(what), second[what]);
        }
        Check.due("h claims", x.claim(0, 0), 150);
        // a: bonds 2 and 6 were drawn; 6 is nobody's and lapses a year later.
        x.year();
        Check.due("PAID", x.count(5), 1);
        Check.due("LAPSED", x.count(7), 1);
        x.image(0, false);
        Check.due("two IMAGES", x.count(9), 2);
    }

    private static void loans() {
        DrawnBonds x = Check.house(TEXT);
        long[][] want = {{6, 100, 5, 3, 0, 0, 1, 1, 0, 6}, {4, 80, 3, 4, 1, 90, 20, 2, 0, 4}, {2, 50, 1, 2, 2, 0, 7, 3, 0, 2}};
        for (int l = 0; l < 3; l++) {
            for (int what = 0; what < 10; what++) {
                Check.due("loan " + l + " " + what, Check.loan(x, l, what), want[l][what]);
            }
            for (int what : new int[] {-1, 10, Integer.MIN_VALUE, Integer.MAX_VALUE}) {
                Check.due("loan " + l + " " + what, Check.loan(x, l, what), Check.THROWN);
            }
        }
        for (int l : new int[] {-1, 3, 4, Integer.MIN_VALUE, Integer.MAX_VALUE}) {
            Check.due("loan " + l, Check.loan(x, l, 0), Check.THROWN);
        }
        x.year();
        Check.due("WHEEL of a, two steps on", Check.loan(x, 0, 7), 182605794);
        Check.due("FUND of b", Check.loan(x, 1, 8), 18);
        Check.due("S of b", Check.loan(x, 1, 9), 2);
        Check.due("WHEEL of c stays", Check.loan(x, 2, 7), 3);
    }

    private static void cashAndHeld() {
        DrawnBonds x = Check.house(TEXT);
        Check.due("cash of h", x.cash(0), 10);
        Check.due("cash of g", x.cash(1), 20);
        Check.due("cash of 2", x.cash(2), -1);
        Check.due("cash of nobody", x.cash(-1), -1);
        long[] h = {3, 0, 0, 0, 0};
        for (int s = 0; s < 5; s++) {
            Check.due("held " + s, x.held(0, 0, s), h[s]);
        }
        Check.due("held of b by g", x.held(1, 1, 0), 4);
        Check.due("held of c by g", x.held(1, 2, 0), 0);
        Check.due("held by nobody", x.held(-1, 0, 0), -1);
        Check.due("held by 2", x.held(2, 0, 0), -1);
        Check.due("held of 3", x.held(0, 3, 0), -1);
        Check.due("held of -1", x.held(0, -1, 0), -1);
        Check.due("held so 5", x.held(0, 0, 5), -1);
        Check.due("held so -1", x.held(0, 0, -1), -1);
        x.year();
        Check.due("owed to h", x.held(0, 0, 1), 1);
        Check.due("standing of h", x.held(0, 0, 0), 2);
        Check.due("bought of g", x.held(1, 1, 3), 2);
        // g: 5 of a; 12 and 60 of b.
        Check.due("cash of g", x.cash(1), 97);
        x.claim(0, 0);
        Check.due("paid of h", x.held(0, 0, 2), 1);
    }

    private static void bonds() {
        DrawnBonds x = Check.house(TEXT);
        long[] first = {0, 0, 0, 0, 0};
        for (int what = 0; what < 5; what++) {
            Check.due("bond 2 " + what, x.bond(0, 2, what), first[what]);
        }
        Check.due("bond 4 is nobody's", x.bond(0, 4, 1), -1);
        Check.due("bond 5 is g's", x.bond(0, 5, 1), 1);
        Check.due("bond 0", x.bond(0, 0, 0), -2);
        Check.due("bond 7", x.bond(0, 7, 0), -2);
        Check.due("bond 5 of b", x.bond(1, 5, 0), -2);
        Check.due("bond of loan 3", x.bond(3, 1, 0), -2);
        Check.due("bond of loan -1", x.bond(-1, 1, 0), -2);
        Check.due("bond what 5", x.bond(0, 1, 5), -2);
        Check.due("bond what -1", x.bond(0, 1, -1), -2);
        x.year();
        long[] drawn = {1, 0, 1, 1, 5};
        long[] second = {1, -1, 1, 2, 5};
        for (int what = 0; what < 5; what++) {
            Check.due("bond 2 in 1 " + what, x.bond(0, 2, what), drawn[what]);
            Check.due("bond 6 in 1 " + what, x.bond(0, 6, what), second[what]);
        }
        Check.due("coupons of one that STANDS", x.bond(0, 1, 4), 5);
        x.claim(0, 0);
        x.year();
        Check.due("GOT par and prize", x.bond(0, 2, 4), 155);
        Check.due("LAPSED", x.bond(0, 6, 0), 4);
        Check.due("its YEAR stays", x.bond(0, 6, 2), 1);
        Check.due("GOT its coupon alone", x.bond(0, 6, 4), 5);
        int first1 = x.lot(1, 1, 1);
        Check.due("BOUGHT", x.bond(1, first1, 0), 3);
        Check.due("GOT coupon and COST", x.bond(1, first1, 4), 33);
    }

    private static void standing() {
        DrawnBonds x = Check.house(TEXT);
        Check.due("of h from 1", x.standing(0, 0, 1), 1);
        Check.due("of h from 3", x.standing(0, 0, 3), 3);
        Check.due("of h from 4", x.standing(0, 0, 4), -2);
        Check.due("of g from 1", x.standing(0, 1, 1), 5);
        Check.due("of nobody from 1", x.standing(0, -1, 1), 4);
        Check.due("of nobody from 5", x.standing(0, -1, 5), 6);
        Check.due("of nobody of b", x.standing(1, -1, 1), -2);
        Check.due("from 6", x.standing(0, -1, 6), 6);
        Check.due("from 7", x.standing(0, -1, 7), -1);
        Check.due("from 0", x.standing(0, -1, 0), -1);
        Check.due("of holder 2", x.standing(0, 2, 1), -1);
        Check.due("of holder -2", x.standing(0, -2, 1), -1);
        Check.due("of loan 3", x.standing(3, 0, 1), -1);
        Check.due("of loan -1", x.standing(-1, 0, 1), -1);
        x.year();
        Check.due("2 was drawn", x.standing(0, 0, 2), 3);
        Check.due("6 was drawn", x.standing(0, -1, 5), -2);
    }

    private static void prices() {
        DrawnBonds x = Check.house(TEXT);
        Check.due("without", x.price(0, 1), 100);
        Check.due("above par", x.price(0, 2), 120);
        Check.due("below par", x.price(1, 1), 30);
        Check.due("of the last year", x.price(1, 4), 80);
        Check.due("of end", x.price(2, 1), 10);
        Check.due("year 0", x.price(0, 0), -1);
        Check.due("year 4", x.price(0, 4), -1);
        Check.due("loan 3", x.price(3, 1), -1);
        Check.due("loan -1", x.price(-1, 1), -1);
        x.year();
        Check.due("of a year that passed", x.price(1, 1), 30);
    }
}
