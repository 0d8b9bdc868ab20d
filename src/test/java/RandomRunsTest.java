import java.util.NoSuchElementException;
import java.util.Random;

/** Runs of calls by chance (the same ones every time), each answer compared with the Model's. */
public final class RandomRunsTest {
    private static final int[] EDGES = {-2147483648, -3, -2, -1, 0, 1, 2, 3, 4, 5, 9, 10, 20, 21, 59, 60, 61, 99, 100, 999,
        1000, 99999, 100000, 2147483646, 2147483647};
    private static final String[] NAMES = {"a", "b", "c", "d", "zz", "abcdef", "q", "r", "s", "t", "u", "v"};

    private final Random by;
    private final DrawnBonds house = new DrawnBonds();
    private final Model model = new Model();
    private int calls = 0;

    private RandomRunsTest(long seed) {
        by = new Random(seed);
    }

    public static void main(String[] args) {
        for (int seed = 1; seed <= 5000; seed++) {
            new RandomRunsTest(seed).go(seed);
        }
        Check.end();
    }

    private void go(int seed) {
        tellText(seed);
        boolean years = by.nextInt(3) > 0;
        while (calls < 460) {
            if (by.nextInt(150) == 0) {
                tellText(seed);
            } else {
                int what = years && by.nextInt(12) == 0 ? 5 : by.nextInt(35);
                calls++;
                one("run " + seed + " call " + calls + " ", what);
            }
        }
    }

    private void tellText(int seed) {
        String t = text();
        if (by.nextInt(4) == 0) {
            t = spoil(t);
        }
        if (t.length() > 700) {
            t = t.substring(0, 700);
        }
        for (int at = 0; at < t.length(); at += 20) {
            int[] f = new int[5];
            for (int k = 0; k < 20; k++) {
                f[k / 4] = f[k / 4] << 8 | (at + k < t.length() ? t.charAt(at + k) & 255 : 32);
            }
            Check.due("feed", house.feed(f[0], f[1], f[2], f[3], f[4]), model.feed(f));
            calls++;
        }
        calls++;
        int n = by.nextInt(10) == 0 ? by.nextInt(720) - 5 : t.length();
        Check.due("run " + seed + " call " + calls + " text of [" + t + "] " + n, house.text(n), model.text(n));
    }

    private String text() {
        StringBuilder t = new StringBuilder();
        int loans = 1 + by.nextInt(by.nextInt(8) == 0 ? 5 : 3);
        int holders = by.nextInt(by.nextInt(8) == 0 ? 8 : 4);
        int[] bonds = new int[loans];
        int[] years = new int[loans];
        for (int k = 0; k < loans; k++) {
            bonds[k] = 1 + by.nextInt(by.nextInt(3) == 0 ? 60 : 12);
            years[k] = 1 + by.nextInt(by.nextInt(3) == 0 ? 20 : 6);
            int par = by.nextInt(3) == 0 ? 1 + by.nextInt(999) : 20 * (1 + by.nextInt(8));
            int coupon = by.nextInt(3) == 0 ? by.nextInt(100) : by.nextInt(6);
            String plan = new String[] {"even", "end", "sink " + (1 + by.nextInt(3) * 40 + by.nextInt(par * bonds[k] / years[k] + 2)),
                "sink " + (1 + by.nextInt(par + coupon * bonds[k]))}[by.nextInt(4)];
            t.append("loan ").append(NAMES[k]).append(" bonds ").append(bonds[k]).append(" par ").append(par).append(" coupon ")
                    .append(coupon).append(" years ").append(years[k]).append(' ').append(plan)
                    .append(by.nextInt(2) == 0 ? "" : " lapse " + (1 + by.nextInt(4))).append(by.nextInt(2) == 0 ? ";" : " ;\n");
        }
        for (int k = 0; k < holders; k++) {
            t.append("holder ").append(NAMES[6 + k % 6]).append(" cash ").append(by.nextInt(by.nextInt(2) == 0 ? 100000 : 300)).append(';');
        }
        for (int k = 0; k < loans && holders > 0; k++) {
            int from = 1;
            while (from <= bonds[k] && by.nextInt(6) > 0) {
                int to = from + by.nextInt(bonds[k] - from + 1);
                t.append("holds ").append(NAMES[6 + by.nextInt(holders) % 6]).append(' ').append(NAMES[k]).append(' ').append(from)
                        .append(' ').append(to).append(';');
                from = to + 1 + by.nextInt(3);
            }
        }
        for (int k = by.nextInt(by.nextInt(9) == 0 ? 14 : 4); k > 0; k--) {
            t.append("prize ").append(NAMES[by.nextInt(loans)]).append(' ').append(1 + by.nextInt(5) + (k > 5 ? by.nextInt(5) : 0)).append(' ')
                    .append(1 + by.nextInt(300)).append(';');
        }
        for (int k = by.nextInt(8); k > 0; k--) {
            int of = by.nextInt(loans);
            t.append("price ").append(NAMES[of]).append(' ').append(1 + by.nextInt(years[of])).append(' ').append(1 + by.nextInt(200)).append(';');
        }
        return t.toString();
    }

    private String spoil(String t) {
        StringBuilder s = new StringBuilder(t);
        String signs = "abz059; \n-A\u00e9";
        for (int k = 1 + by.nextInt(2); k > 0; k--) {
            int at = by.nextInt(s.length());
            char sign = signs.charAt(by.nextInt(signs.length()));
            switch (by.nextInt(3)) {
                case 0 -> s.setCharAt(at, sign);
                case 1 -> s.insert(at, sign);
                default -> s.delete(at, Math.min(s.length(), at + 1 + by.nextInt(8)));
            }
        }
        return s.toString();
    }

    private int small(int most) {
        return by.nextInt(40) == 0 ? EDGES[by.nextInt(EDGES.length)] : by.nextInt(most + 1);
    }

    private int loan() {
        return by.nextInt(15) == 0 ? small(6) - 1 : by.nextInt(2);
    }

    private int holder() {
        return by.nextInt(10) == 0 ? small(8) - 1 : by.nextInt(3);
    }

    private int coming() {
        return by.nextInt(3) == 0 ? small(21) : model.count(2) + small(4);
    }

    private int sum() {
        return by.nextInt(10) == 0 ? EDGES[by.nextInt(EDGES.length)] : 1 + by.nextInt(by.nextInt(2) == 0 ? 200 : 1200);
    }

    private void fraction(String call, long got, long want) {
        Check.due(call, got, want);
        calls++;
        Check.due("below() behind " + call, house.below(), model.below());
    }

    private void one(String run, int what) {
        int l = loan();
        int h = holder();
        int y = coming();
        int a = small(12) - 1;
        int s = sum();
        switch (what) {
            case 0 -> Check.due(run + "count " + a, house.count(a), model.count(a));
            case 1 -> Check.due(run + "loan " + l + " " + a, told(l, a, true), told(l, a, false));
            case 2 -> Check.due(run + "cash " + h, house.cash(h), model.cash(h));
            case 3 -> Check.due(run + "held " + h + " " + l + " " + a, house.held(h, l, a), model.held(h, l, a));
            case 4 -> bonds(run, l);
            case 5 -> Check.due(run + "year", house.year(), model.year());
            case 6 -> Check.due(run + "standing " + l + " " + h + " " + a, house.standing(l, h, a), model.standing(l, h, a));
            case 7 -> Check.due(run + "price " + l + " " + y, house.price(l, y), model.price(l, y));
            case 8 -> Check.due(run + "claim " + h + " " + l, house.claim(h, l), model.claim(h, l));
            case 9 -> Check.due(run + "sell " + l + " " + a + " " + h + " " + s, house.sell(l, a, h, s - 1), model.sell(l, a, h, s - 1));
            case 10 -> Check.due(run + "put " + l + " " + s, house.put(l, s), model.put(l, s));
            case 11 -> Check.due(run + "priced " + l + " " + y + " " + s, house.priced(l, y, s), model.priced(l, y, s));
            case 12 -> Check.due(run + "wheel " + l + " " + s, house.wheel(l, s), model.wheel(l, s));
            case 13 -> Check.due(run + "undo", house.undo(), model.undo());
            case 14 -> image(run, small(3) - 1);
            case 15, 16, 17 -> Check.due(run + "row " + l + " " + y + " " + a, house.row(l, y, a), model.row(l, y, a));
            case 18 -> Check.due(run + "toPay " + l, house.toPay(l), model.toPay(l));
            case 19 -> fraction(run + "odds " + l + " " + y, house.odds(l, y), model.odds(l, y));
            case 20 -> fraction(run + "worth " + l + " " + 5 * a, house.worth(l, 5 * a), model.worth(l, 5 * a));
            case 21 -> fraction(run + "life " + l, house.life(l), model.life(l));
            case 22 -> Check.due(run + "half " + l, house.half(l), model.half(l));
            case 23 -> Check.due(run + "yields " + l + " " + s, house.yields(l, s), model.yields(l, s));
            case 24 -> fraction(run + "atLeast " + h + " " + l + " " + a, house.atLeast(h, l, a), model.atLeast(h, l, a));
            case 25 -> fraction(run + "lasting " + h + " " + l, house.lasting(h, l), model.lasting(h, l));
            case 26 -> ifPrice(run, l, y, s, coming());
            case 27 -> Check.due(run + "needs " + l + " " + y, house.needs(l, y), model.needs(l, y));
            case 28 -> lot(run, l, small(8), a);
            case 29 -> replay(run, l, small(8), by.nextInt(2) == 0 ? 0 : s);
            case 30 -> Check.due(run + "lastOne " + l + " " + a, house.lastOne(l, a - 1), model.lastOne(l, a - 1));
            case 31 -> fraction(run + "mean " + h, house.mean(h), model.mean(h));
            case 32 -> Check.due(run + "unlucky " + a, house.unlucky(a - 1), model.unlucky(a - 1));
            case 33 -> Check.due(run + "paid " + l + " " + a, house.paid(l, a), model.paid(l, a));
            default -> fraction(run + "worth " + l + " " + s, house.worth(l, s % 100), model.worth(l, s % 100));
        }
    }

    private void lot(String run, int l, int y, int k) {
        Check.due(run + "lot " + l + " " + y + " " + k, house.lot(l, y, k), model.lot(l, y, k));
    }

    private long told(int l, int what, boolean ofHouse) {
        try {
            return ofHouse ? house.loan(l, what) : model.loan(l, what);
        } catch (NoSuchElementException e) {
            return Check.THROWN;
        }
    }

    private void bonds(String run, int l) {
        int number = small(61);
        int what = small(5);
        Check.due(run + "bond " + l + " " + number + " " + what, house.bond(l, number, what), model.bond(l, number, what));
    }

    private void image(String run, int k) {
        boolean back = by.nextInt(3) == 0;
        Check.due(run + "image " + k + " " + back, house.image(k, back), model.image(k, back));
    }

    private void ifPrice(String run, int l, int y, int s, int then) {
        Check.due(run + "ifPrice " + l + " " + y + " " + s + " " + then, house.ifPrice(l, y, s, then), model.ifPrice(l, y, s, then));
    }

    private void replay(String run, int l, int y, int x) {
        Check.due(run + "replayed " + l + " " + y + " " + x, house.replayed(l, y, x), model.replayed(l, y, x));
    }
}
