import java.util.NoSuchElementException;

/** What all tests share: answers compared, and texts laid on THE TAPE. */
final class Check {
    static final long THROWN = Long.MIN_VALUE;

    private static int wrong = 0;
    private static int compared = 0;

    private Check() {
    }

    static void due(String call, long got, long want) {
        compared++;
        if (got != want) {
            wrong++;
            System.out.println(call + " answered " + got + ", due is " + want);
        }
    }

    static void due(String call, boolean got, boolean want) {
        due(call, got ? 1 : 0, want ? 1 : 0);
    }

    /** A FRACTION: what is above, as a call answered it, and what is below. */
    static void fraction(String call, DrawnBonds house, long above, long wantAbove, long wantBelow) {
        due(call, above, wantAbove);
        due("below() behind " + call, house.below(), wantBelow);
    }

    static long loan(DrawnBonds house, int loan, int what) {
        try {
            return house.loan(loan, what);
        } catch (NoSuchElementException e) {
            return THROWN;
        }
    }

    /** Lays a text on THE TAPE, filled with blanks to a multiple of twenty. */
    static void feed(DrawnBonds house, String text) {
        for (int at = 0; at < text.length(); at += 20) {
            house.feed(four(text, at), four(text, at + 4), four(text, at + 8), four(text, at + 12), four(text, at + 16));
        }
    }

    private static int four(String text, int at) {
        int all = 0;
        for (int k = at; k < at + 4; k++) {
            all = all << 8 | (k < text.length() ? text.charAt(k) & 255 : 32);
        }
        return all;
    }

    static int read(DrawnBonds house, String text) {
        feed(house, text);
        return house.text(text.length());
    }

    /** A new object with a text that has no fault. */
    static DrawnBonds house(String text) {
        DrawnBonds house = new DrawnBonds();
        int lines = read(house, text);
        if (lines < 0) {
            due("text of " + text, lines, 0);
        }
        return house;
    }

    static void years(DrawnBonds house, int n) {
        for (int k = 0; k < n; k++) {
            house.year();
        }
    }

    static void end() {
        System.out.println(compared + " answers compared, " + wrong + " wrong");
        if (wrong != 0) {
            System.exit(1);
        }
    }
}
