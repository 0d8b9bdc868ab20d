import java.util.ArrayList;
import java.util.Collections;
import java.util.List;

/** Promises 31 to 36: lot, replayed, lastOne, mean, unlucky, paid. */
public final class DrawnTest {
    private static final String EVEN = "loan a bonds 7 par 100 coupon 5 years 3 even;holder h cash 10;holds h a 1 3;prize a 1 50;";

    public static void main(String[] args) {
        lots();
        lotsByTheWheel();
        replayed();
        lastOnes();
        means();
        unlucky();
        paid();
        Check.end();
    }

    private static void lots() {
        DrawnBonds x = Check.house(EVEN + "loan e bonds 2 par 1 coupon 0 years 5 end;");
        Check.due("a year to come", x.lot(0, 1, 0), -1);
        Check.years(x, 1);
        Check.due("how many", x.lot(0, 1, 0), 2);
        Check.due("how many of end", x.lot(1, 1, 0), 0);
        Check.due("first of none", x.lot(1, 1, 1), -1);
        Check.due("k 3", x.lot(0, 1, 3), -1);
        Check.due("k -1", x.lot(0, 1, -1), -1);
        Check.due("year 0", x.lot(0, 0, 0), -1);
        Check.due("year 2", x.lot(0, 2, 0), -1);
        Check.due("loan 2", x.lot(2, 1, 0), -1);
        Check.due("loan -1", x.lot(-1, 1, 0), -1);
        Check.years(x, 3);
        Check.due("the last year", x.lot(0, 3, 0), 3);
        Check.due("a YEAR behind its years", x.lot(0, 4, 0), -1);
        Check.due("which is one of the other LOAN", x.lot(1, 4, 0), 0);
    }

    /** The wheel turned here by hand gives the same numbers, year by year, place by place. */
    private static void lotsByTheWheel() {
        DrawnBonds x = Check.house("loan z bonds 1 par 1 coupon 0 years 1 end;loan a bonds 60 par 90 coupon 3 years 20 sink 333;price a 2 50;price a 4 1;");
        List<Integer> pool = new ArrayList<>();
        for (int n = 1; n <= 60; n++) {
            pool.add(n);
        }
        long wheel = 2;
        for (int y = 1; y <= 20; y++) {
            x.year();
            for (int k = 1; k <= x.lot(1, y, 0); k++) {
                wheel = wheel * 48271 % 2147483647;
                int number = pool.remove((int) (wheel % pool.size()));
                Check.due("lot " + y + " " + k, x.lot(1, y, k), number);
                Check.due("its year", x.bond(1, number, 2), y);
                Check.due("its place", x.bond(1, number, 3), k);
            }
        }
        Check.due("all are drawn", pool.size(), 0);
        Check.due("WHEEL", Check.loan(x, 1, 7), wheel);
    }

    private static void replayed() {
        DrawnBonds x = Check.house("loan a bonds 7 par 100 coupon 5 years 3 even;loan e bonds 2 par 1 coupon 0 years 5 end;");
        Check.due("a year to come", x.replayed(0, 1, 0), -1);
        x.year();
        x.wheel(0, 4711);
        x.year();
        x.wheel(0, 5);
        x.year();
        Check.due("1 as it was", x.replayed(0, 1, 0), 2);
        Check.due("1 by 1", x.replayed(0, 1, 1), 2);
        Check.due("2 as it was", x.replayed(0, 2, 0), 2);
        Check.due("2 by 4711", x.replayed(0, 2, 4711), 2);
        Check.due("3 as it was", x.replayed(0, 3, 0), 3);
        // 48271 by 7 has rest 6, so 7 is first; the wheel 7 has rest 0, 1 is first.
        Check.due("the first differs", x.replayed(0, 1, 7), 0);
        // 1 and 8 have the same rest by 7 (48271 and 386168); then 182605794 and 1460846352 by 6: rests 0 and 0.
        Check.due("8 as 1", x.replayed(0, 1, 8), 2);
        Check.due("15: the second differs", x.replayed(0, 1, 15), secondRest(15) == secondRest(1) ? 2 : 1);
        Check.due("2147483646", x.replayed(0, 1, 2147483646) >= 0, true);
        Check.due("2147483647", x.replayed(0, 1, 2147483647), -1);
        Check.due("-1", x.replayed(0, 1, -1), -1);
        Check.due("year 0", x.replayed(0, 0, 0), -1);
        Check.due("year 4", x.replayed(0, 4, 0), -1);
        Check.due("loan 2", x.replayed(2, 1, 0), -1);
        Check.due("loan -1", x.replayed(-1, 1, 0), -1);
        Check.due("none were due", x.replayed(1, 1, 5), 0);
        Check.due("in thought alone", Check.loan(x, 0, 7) == 5, false);
        x.year();
        Check.due("a YEAR behind its years", x.replayed(0, 4, 0), -1);
    }

    private static long secondRest(long x) {
        long once = x * 48271 % 2147483647;
        return once * 48271 % 2147483647 % 6;
    }

    private static void lastOnes() {
        DrawnBonds x = Check.house(EVEN);
        Check.due("not over", x.lastOne(0, 0), -1);
        Check.years(x, 2);
        Check.due("not over, how many", x.lastOne(0, -1), -1);
        List<Integer> left = new ArrayList<>();
        for (int n = 1; n <= 7; n++) {
            if (x.bond(0, n, 0) == 0) {
                left.add(n);
            }
        }
        Collections.sort(left);
        x.year();
        Check.due("how many", x.lastOne(0, -1), 3);
        for (int i = 0; i < 3; i++) {
            Check.due("last " + i, x.lastOne(0, i), left.get(i));
        }
        Check.due("3", x.lastOne(0, 3), -2);
        Check.due("-2", x.lastOne(0, -2), -2);
        Check.due("most", x.lastOne(0, Integer.MAX_VALUE), -2);
        Check.due("loan 1", x.lastOne(1, 0), -1);
        Check.due("loan -1", x.lastOne(-1, -1), -1);
        x.claim(0, 0);
        Check.years(x, 30);
        Check.due("PAID and LAPSED too", x.lastOne(0, -1), 3);
    }

    private static void means() {
        DrawnBonds x = Check.house("loan a bonds 2 par 10 coupon 0 years 2 even;loan b bonds 2 par 10 coupon 0 years 5 end lapse 1;"
                + "holder h cash 0;holder g cash 0;holder n cash 0;holds h a 1 2;holds h b 1 1;holds g b 2 2;");
        Check.fraction("none", x, x.mean(0), -2, 1);
        Check.due("holder 3", x.mean(3), -1);
        Check.due("nobody", x.mean(-1), -1);
        Check.years(x, 1);
        Check.fraction("1", x, x.mean(0), 1, 1);
        Check.years(x, 1);
        Check.fraction("1 and 2", x, x.mean(0), 3, 2);
        x.claim(0, 0);
        Check.years(x, 4);
        Check.fraction("1, 2 and 5, PAID and LAPSED", x, x.mean(0), 8, 3);
        Check.fraction("5", x, x.mean(1), 5, 1);
        Check.fraction("none of its own", x, x.mean(2), -2, 1);
    }

    private static void unlucky() {
        DrawnBonds x = Check.house("loan a bonds 1 par 10 coupon 0 years 1 end;loan b bonds 3 par 10 coupon 0 years 2 end;loan c bonds 1 par 1 coupon 0 years 9 end;"
                + "holder p cash 0;holder q cash 0;holder r cash 0;holder s cash 0;holder t cash 0;holds p a 1 1;holds q b 1 1;holds s b 2 2;holds p b 3 3;holds t c 1 1;");
        Check.due("none yet", x.unlucky(-1), 0);
        Check.due("first of none", x.unlucky(0), -2);
        Check.years(x, 1);
        Check.due("one", x.unlucky(-1), 1);
        Check.due("p", x.unlucky(0), 0);
        Check.years(x, 1);
        Check.due("three", x.unlucky(-1), 3);
        Check.due("q: 2", x.unlucky(0), 1);
        Check.due("s: 2", x.unlucky(1), 3);
        Check.due("p: 3 by 2", x.unlucky(2), 0);
        Check.due("not so many", x.unlucky(3), -2);
        Check.due("-2", x.unlucky(-2), -2);
        Check.due("least", x.unlucky(Integer.MIN_VALUE), -2);
        Check.due("most", x.unlucky(Integer.MAX_VALUE), -2);
        Check.due("it tells no FRACTION", x.below(), 1);
    }

    private static void paid() {
        DrawnBonds x = Check.house("loan a bonds 6 par 100 coupon 5 years 3 even lapse 1;holder h cash 10;holds h a 1 3;prize a 1 50;price a 2 70;");
        paidRow(x, 0, 0, 0, 0, 0, 0);
        x.year();
        // 2 (prize, of h) and 6 (nobody's).
        paidRow(x, 30, 0, 0, 0, 250, 0);
        x.claim(0, 0);
        paidRow(x, 30, 150, 0, 0, 100, 0);
        x.year();
        paidRow(x, 50, 150, 140, 100, 0, 60);
        x.year();
        paidRow(x, 60, 150, 140, 100, 250, 60);
        x.year();
        paidRow(x, 60, 150, 140, 350, 0, 60);
        Check.due("what -1", x.paid(0, -1), -1);
        Check.due("what 6", x.paid(0, 6), -1);
        Check.due("loan 1", x.paid(1, 0), -1);
        Check.due("loan -1", x.paid(-1, 0), -1);
    }

    private static void paidRow(DrawnBonds x, long... want) {
        for (int what = 0; what < 6; what++) {
            Check.due("paid " + what + " in " + x.count(2), x.paid(0, what), want[what]);
        }
    }
}
