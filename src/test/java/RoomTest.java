import java.lang.management.ManagementFactory;

/** What an object and 512 of its dearest calls make stays far below the room that one run has. */
public final class RoomTest {
    private static final String TEXT = "loan a bonds 60 par 999 coupon 0 years 20 sink 1;loan b bonds 60 par 999 coupon 1 years 20 sink 999;"
            + "holder h cash 999;holder g cash 999;holds h a 1 60;holds g b 1 60;price a 2 998;price a 3 997;price a 4 991;price b 3 7;";
    // 7.3 million fields and elements of four bytes at least; a tenth of that is plenty here.
    private static final long MOST_BYTES = 2_900_000;

    private static final com.sun.management.ThreadMXBean BEAN =
            (com.sun.management.ThreadMXBean) ManagementFactory.getThreadMXBean();

    public static void main(String[] args) {
        run(0);
        for (int kind = 0; kind < 14; kind++) {
            long before = BEAN.getThreadAllocatedBytes(Thread.currentThread().getId());
            run(kind);
            long made = BEAN.getThreadAllocatedBytes(Thread.currentThread().getId()) - before;
            Check.due("kind " + kind + " made " + made + " bytes: too many", made > MOST_BYTES, false);
        }
        Check.end();
    }

    private static void run(int kind) {
        DrawnBonds x = Check.house(TEXT);
        for (int call = 0; call < 490; call++) {
            one(x, kind, call);
        }
    }

    private static void one(DrawnBonds x, int kind, int call) {
        switch (kind) {
            case 0 -> x.year();
            case 1 -> x.wheel(0, call + 1);
            case 2 -> x.image(call % 2, call % 3 == 0);
            case 3 -> x.needs(0, 19);
            case 4 -> x.yields(0, 99999);
            case 5 -> x.unlucky(5);
            case 6 -> x.atLeast(0, 0, 0);
            case 7 -> x.text(0);
            case 8 -> x.feed(1, 2, 3, 4, 5);
            case 9 -> Check.loan(x, 9, 9);
            case 10 -> x.worth(0, call % 100);
            case 11 -> x.ifPrice(0, 2, 5, 19);
            case 12 -> {
                if (call % 2 == 0) {
                    x.year();
                } else {
                    x.undo();
                }
            }
            default -> x.replayed(0, 1, 5);
        }
    }
}
