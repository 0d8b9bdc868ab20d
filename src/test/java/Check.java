import java.lang.reflect.Field;
import java.util.IdentityHashMap;
import java.util.Map;
import java.util.NoSuchElementException;

/** What all tests share: answers compared, and texts laid on THE TAPE. */
final class Check {
    static final long THROWN = Long.MIN_VALUE;

    private static int wrong = 0;
    private static int compared = 0;
    private static int sentences = 0;
    private static String sentence = "";
    private static final Map<DrawnBonds, int[]> ASKED = new IdentityHashMap<>();

    private Check() {
    }

    /** Names the promise or the part of "Terms" that the answers from here on are held against, and its sentence. */
    static void about(String words) {
        sentence = words + " | ";
        sentences++;
    }

    static void due(String call, long got, long want) {
        compared++;
        if (got != want) {
            wrong++;
            System.out.println(sentence + call + " answered " + got + ", due is " + want);
        }
    }

    static void due(String call, boolean got, boolean want) {
        due(call, got ? 1 : 0, want ? 1 : 0);
    }

    /** A FRACTION: what is above, as a call answered it, and what is below. */
    static void fraction(String call, DrawnBonds house, long above, long wantAbove, long wantBelow) {
        due(call, above, wantAbove);
        due("below() behind " + call, house.below(), wantBelow);
    }

    static long loan(DrawnBonds house, int loan, int what) {
        try {
            return house.loan(loan, what);
        } catch (NoSuchElementException e) {
            return THROWN;
        }
    }

    /** The numbers next to a range that a call takes, and the farthest ones. */
    static int[] outside(int least, int most) {
        return new int[] {least - 1, most + 1, Integer.MIN_VALUE, Integer.MAX_VALUE};
    }

    /** Lays a text on THE TAPE, filled with blanks to a multiple of twenty. */
    static void feed(DrawnBonds house, String text) {
        for (int at = 0; at < text.length(); at += 20) {
            house.feed(four(text, at), four(text, at + 4), four(text, at + 8), four(text, at + 12), four(text, at + 16));
        }
    }

    private static int four(String text, int at) {
        int all = 0;
        for (int k = at; k < at + 4; k++) {
            all = all << 8 | (k < text.length() ? text.charAt(k) & 255 : 32);
        }
        return all;
    }

    static int read(DrawnBonds house, String text) {
        feed(house, text);
        return house.text(text.length());
    }

    /** A new object with a text that has no fault. */
    static DrawnBonds house(String text) {
        DrawnBonds house = new DrawnBonds();
        int lines = read(house, text);
        if (lines < 0) {
            due("text of " + text, lines, 0);
        }
        return house;
    }

    static void years(DrawnBonds house, int n) {
        for (int k = 0; k < n; k++) {
            house.year();
        }
    }

    /** A row inside the object, for bounds that no run of calls can reach. */
    static int[] inside(DrawnBonds x, String part, String row) throws ReflectiveOperationException {
        Field of = DrawnBonds.class.getDeclaredField(part);
        of.setAccessible(true);
        Field numbers = of.get(x).getClass().getDeclaredField(row);
        numbers.setAccessible(true);
        return (int[]) numbers.get(of.get(x));
    }

    /** All that can change, asked for without a thought of years to come; for small houses, as an object has but 512 calls. */
    static String seen(DrawnBonds x) {
        StringBuilder all = new StringBuilder();
        int[] calls = ASKED.computeIfAbsent(x, y -> new int[1]);
        int loans = x.count(0);
        int holders = x.count(1);
        calls[0] += 2;
        for (int what = 0; what <= 10; what++) {
            calls[0]++;
            all.append(" count").append(what).append('=').append(x.count(what));
        }
        for (int l = 0; l < loans; l++) {
            for (int what = 0; what <= 9; what++) {
                calls[0]++;
                all.append(" loan").append(l).append('.').append(what).append('=').append(loan(x, l, what));
            }
            seenOfLoan(x, l, all, calls);
        }
        for (int h = 0; h < holders; h++) {
            calls[0]++;
            all.append(" cash").append(h).append('=').append(x.cash(h));
        }
        // Some calls of the test itself come on top.
        due("calls of one object: too many", calls[0] > 460, false);
        return all.append(" below=").append(x.below()).toString();
    }

    private static void seenOfLoan(DrawnBonds x, int l, StringBuilder all, int[] calls) {
        int years = (int) loan(x, l, 3);
        int bonds = (int) loan(x, l, 0);
        calls[0] += 2;
        for (int y = 1; y <= years; y++) {
            calls[0]++;
            all.append(" price").append(l).append('.').append(y).append('=').append(x.price(l, y));
        }
        for (int n = 1; n <= bonds; n++) {
            for (int what = 0; what <= 4; what++) {
                calls[0]++;
                all.append(" bond").append(l).append('.').append(n).append('.').append(what).append('=').append(x.bond(l, n, what));
            }
        }
        for (int what = 0; what <= 5; what++) {
            calls[0]++;
            all.append(" paid").append(l).append('.').append(what).append('=').append(x.paid(l, what));
        }
    }

    static void same(String call, String got, String want) {
        compared++;
        if (!got.equals(want)) {
            wrong++;
            String[] g = got.split(" ");
            String[] w = want.split(" ");
            for (int k = 0; k < Math.max(g.length, w.length); k++) {
                String one = k < g.length ? g[k] : "nothing";
                String other = k < w.length ? w[k] : "nothing";
                if (!one.equals(other)) {
                    System.out.println(sentence + "behind " + call + " there is " + one + ", due is " + other);
                }
            }
        }
    }

    /** Behind these calls all is as it was. */
    static void unchanged(DrawnBonds house, String calls, Runnable refused) {
        String before = seen(house);
        refused.run();
        same(calls, seen(house), before);
    }

    static void end() {
        System.out.println(compared + " answers compared, " + wrong + " wrong"
                + (sentences > 0 ? ", of " + sentences + " sentences" : ""));
        if (wrong != 0) {
            System.exit(1);
        }
    }
}
