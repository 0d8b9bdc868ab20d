import java.math.BigInteger;
import java.util.ArrayDeque;
import java.util.ArrayList;
import java.util.Arrays;
import java.util.Collections;
import java.util.List;
import java.util.Map;
import java.util.NoSuchElementException;
import java.util.TreeMap;
import java.util.regex.Matcher;
import java.util.regex.Pattern;

/** The document written a second time, with the whole library: slow, plain, and kept apart from the class. */
final class Model {
    private static final List<String> KEYS = List.of("loan", "bonds", "par", "coupon", "years", "even", "end", "sink",
            "lapse", "holder", "cash", "holds", "prize", "price");
    private static final BigInteger LIMIT = BigInteger.ONE.shiftLeft(62);

    private static final class Fault extends RuntimeException {
        private static final long serialVersionUID = 1;
        final int place;
        final int kind;

        Fault(int place, int kind) {
            this.place = place;
            this.kind = kind;
        }
    }

    private static final class Bond implements Cloneable {
        int state;
        int holder = -1;
        int year;
        int place;
        int owed;
        int got;

        Bond copy() {
            try {
                return (Bond) clone();
            } catch (CloneNotSupportedException e) {
                throw new IllegalStateException(e);
            }
        }
    }

    private static final class Lot {
        long wheel;
        List<Integer> stood;
        List<Integer> drawn;
    }

    private static final class Loan {
        int bonds;
        int par;
        int coupon;
        int years;
        String plan;
        int sum;
        int lapse = 20;
        Map<Integer, Integer> prizes = new TreeMap<>();
        Map<Integer, Integer> prices = new TreeMap<>();
        List<Bond> all = new ArrayList<>();
        Map<Integer, Lot> lots = new TreeMap<>();
        long wheel;
        int fund;
        long[] paid = new long[6];

        Loan copy() {
            Loan c = new Loan();
            c.bonds = bonds;
            c.par = par;
            c.coupon = coupon;
            c.years = years;
            c.plan = plan;
            c.sum = sum;
            c.lapse = lapse;
            c.prizes = prizes;
            c.prices = new TreeMap<>(prices);
            for (Bond b : all) {
                c.all.add(b.copy());
            }
            c.lots = new TreeMap<>(lots);
            c.wheel = wheel;
            c.fund = fund;
            c.paid = paid.clone();
            return c;
        }

        int price(int year) {
            return prices.getOrDefault(year, par);
        }

        List<Integer> standing() {
            List<Integer> s = new ArrayList<>();
            for (int n = 1; n <= bonds; n++) {
                if (all.get(n - 1).state == 0) {
                    s.add(n);
                }
            }
            return s;
        }
    }

    private static final class World {
        int year;
        List<Loan> loans = new ArrayList<>();
        List<Integer> cash = new ArrayList<>();

        World copy() {
            World c = new World();
            c.year = year;
            for (Loan l : loans) {
                c.loans.add(l.copy());
            }
            c.cash.addAll(cash);
            return c;
        }

        void pay(int holder, int sum) {
            if (holder >= 0) {
                cash.set(holder, (int) Math.min(1_000_000_000L, (long) cash.get(holder) + sum));
            }
        }
    }

    /** One YEAR of THE ROW. */
    private static final class Coming {
        int stand;
        int interest;
        int due;
        int cost;
        boolean bought;
        int fund;
        int all;
    }

    private StringBuilder tape = new StringBuilder();
    private World w = new World();
    private final ArrayDeque<World> back = new ArrayDeque<>();
    private final World[] images = new World[2];
    private BigInteger below = BigInteger.ONE;

    // ---- the text

    private List<Object[]> tokens;
    private int next;

    int feed(int... five) {
        if (tape.length() + 20 > 700) {
            return -1;
        }
        for (int x : five) {
            tape.append((char) (x >>> 24)).append((char) (x >>> 16 & 255)).append((char) (x >>> 8 & 255)).append((char) (x & 255));
        }
        return tape.length();
    }

    int text(int n) {
        if (n < 0 || n > tape.length()) {
            return -1;
        }
        String t = tape.substring(0, n);
        tape = new StringBuilder();
        World fresh = new World();
        int lines;
        try {
            lines = parse(t, fresh);
        } catch (Fault f) {
            return -2 - (8 * f.place + f.kind);
        }
        w = fresh;
        back.clear();
        Arrays.fill(images, null);
        return lines;
    }

    private int parse(String t, World into) {
        tokens = new ArrayList<>();
        next = 0;
        Matcher m = Pattern.compile("[ \n]+|([a-z]+)|([0-9]+)|(;)|([\\x00-\\xff])", Pattern.DOTALL).matcher(t);
        while (m.find()) {
            for (int g = 1; g <= 4; g++) {
                if (m.group(g) != null) {
                    tokens.add(new Object[] {g, m.group(g), m.start()});
                }
            }
        }
        tokens.add(new Object[] {0, "", t.length()});
        Map<String, Integer> loanNames = new TreeMap<>();
        Map<String, Integer> holderNames = new TreeMap<>();
        int[] lineCount = new int[5];
        int lines = 0;
        while (kind() != 0) {
            int which = List.of("loan", "holder", "holds", "prize", "price").indexOf(spelled());
            if (which < 0) {
                throw new Fault(place(), 1);
            }
            if (++lineCount[which] > new int[] {4, 6, 20, 12, 24}[which]) {
                throw new Fault(place(), 5);
            }
            next++;
            switch (which) {
                case 0 -> loanLine(into, loanNames, holderNames);
                case 1 -> {
                    String name = name();
                    refuseIf(loanNames.containsKey(name) || holderNames.containsKey(name), 2);
                    next++;
                    holderNames.put(name, into.cash.size());
                    word("cash");
                    into.cash.add(number(0, 99999));
                }
                case 2 -> {
                    Integer h = holderNames.get(name());
                    refuseIf(h == null, 3);
                    next++;
                    Loan l = loanNamed(into, loanNames);
                    int from = number(1, l.bonds);
                    int to = number(from, l.bonds);
                    for (Bond b : l.all.subList(from - 1, to)) {
                        if (b.holder >= 0) {
                            next--;
                            throw new Fault(place(), 2);
                        }
                    }
                    for (Bond b : l.all.subList(from - 1, to)) {
                        b.holder = h;
                    }
                }
                default -> {
                    Loan l = loanNamed(into, loanNames);
                    Map<Integer, Integer> sums = which == 3 ? l.prizes : l.prices;
                    int key = number(1, which == 3 ? 9 : l.years);
                    if (sums.containsKey(key)) {
                        next--;
                        throw new Fault(place(), 2);
                    }
                    sums.put(key, number(1, which == 3 ? 9999 : 999));
                }
            }
            if (kind() != 3) {
                throw new Fault(place(), 1);
            }
            next++;
            lines++;
        }
        return lines;
    }

    private void loanLine(World into, Map<String, Integer> loanNames, Map<String, Integer> holderNames) {
        String name = name();
        refuseIf(loanNames.containsKey(name) || holderNames.containsKey(name), 2);
        next++;
        loanNames.put(name, into.loans.size());
        Loan l = new Loan();
        word("bonds");
        l.bonds = number(1, 60);
        word("par");
        l.par = number(1, 999);
        word("coupon");
        l.coupon = number(0, 99);
        word("years");
        l.years = number(1, 20);
        l.plan = spelled();
        refuseIf(!List.of("even", "end", "sink").contains(l.plan), 1);
        next++;
        if (l.plan.equals("sink")) {
            l.sum = number(1, 99999);
        }
        if (spelled().equals("lapse")) {
            next++;
            l.lapse = number(1, 20);
        }
        for (int k = 0; k < l.bonds; k++) {
            l.all.add(new Bond());
        }
        into.loans.add(l);
        l.wheel = into.loans.size();
    }

    private int kind() {
        return (Integer) tokens.get(next)[0];
    }

    private String spelled() {
        return kind() == 1 ? (String) tokens.get(next)[1] : "";
    }

    private int place() {
        return (Integer) tokens.get(next)[2];
    }

    private void refuseIf(boolean bad, int kind) {
        if (bad) {
            throw new Fault(place(), kind);
        }
    }

    private String name() {
        refuseIf(kind() != 1 || spelled().length() > 6 || KEYS.contains(spelled()), 1);
        return spelled();
    }

    private Loan loanNamed(World into, Map<String, Integer> names) {
        Integer k = names.get(name());
        refuseIf(k == null, 3);
        next++;
        return into.loans.get(k);
    }

    private void word(String s) {
        refuseIf(!spelled().equals(s), 1);
        next++;
    }

    private int number(int least, int most) {
        refuseIf(kind() != 2, 1);
        String s = (String) tokens.get(next)[1];
        refuseIf(s.length() > 5 || Integer.parseInt(s) < least || Integer.parseInt(s) > most, 4);
        next++;
        return Integer.parseInt(s);
    }

    // ---- what is so

    private Loan at(int loan) {
        return loan >= 0 && loan < w.loans.size() ? w.loans.get(loan) : null;
    }

    private boolean isHolder(int h) {
        return h >= 0 && h < w.cash.size();
    }

    int count(int what) {
        int all = 0;
        if (what >= 3 && what <= 7) {
            for (Loan l : w.loans) {
                for (Bond b : l.all) {
                    all += b.state == what - 3 ? 1 : 0;
                }
            }
            return all;
        }
        return switch (what) {
            case 0 -> w.loans.size();
            case 1 -> w.cash.size();
            case 2 -> w.year;
            case 8 -> back.size();
            case 9 -> (images[0] == null ? 0 : 1) + (images[1] == null ? 0 : 1);
            case 10 -> tape.length();
            default -> -1;
        };
    }

    int loan(int loan, int what) {
        Loan l = at(loan);
        if (l == null || what < 0 || what > 9) {
            throw new NoSuchElementException();
        }
        return (int) new long[] {l.bonds, l.par, l.coupon, l.years, List.of("even", "sink", "end").indexOf(l.plan), l.sum,
            l.lapse, l.wheel, l.fund, l.standing().size()}[what];
    }

    int cash(int h) {
        return isHolder(h) ? w.cash.get(h) : -1;
    }

    int held(int h, int loan, int state) {
        if (!isHolder(h) || at(loan) == null || state < 0 || state > 4) {
            return -1;
        }
        return (int) at(loan).all.stream().filter(b -> b.holder == h && b.state == state).count();
    }

    int bond(int loan, int number, int what) {
        Loan l = at(loan);
        if (l == null || number < 1 || number > l.bonds || what < 0 || what > 4) {
            return -2;
        }
        Bond b = l.all.get(number - 1);
        return new int[] {b.state, b.holder, b.year, b.place, b.got}[what];
    }

    int standing(int loan, int h, int from) {
        Loan l = at(loan);
        if (l == null || from < 1 || from > l.bonds || h < -1 || h >= w.cash.size()) {
            return -1;
        }
        return l.standing().stream().filter(n -> n >= from && l.all.get(n - 1).holder == h).findFirst().orElse(-2);
    }

    int price(int loan, int year) {
        Loan l = at(loan);
        return l == null || year < 1 || year > l.years ? -1 : l.price(year);
    }

    // ---- what is done

    private void did() {
        back.addLast(w.copy());
        if (back.size() > 12) {
            back.removeFirst();
        }
    }

    int year() {
        if (w.year == 60) {
            return -1;
        }
        did();
        w.year++;
        int retired = 0;
        for (Loan l : w.loans) {
            if (w.year <= l.years) {
                retired += pass(l);
            }
        }
        for (Loan l : w.loans) {
            for (Bond b : l.all) {
                if (b.state == 1 && w.year >= b.year + l.lapse) {
                    b.state = 4;
                    l.paid[3] += b.owed;
                    l.paid[4] -= b.owed;
                }
            }
        }
        return retired;
    }

    private int pass(Loan l) {
        boolean last = w.year == l.years;
        List<Integer> pool = l.standing();
        for (int n : pool) {
            Bond b = l.all.get(n - 1);
            b.got += l.coupon;
            l.paid[0] += l.coupon;
            w.pay(b.holder, l.coupon);
        }
        boolean buys = l.price(w.year) < l.par && !last && !l.plan.equals("end");
        int cost = buys ? l.price(w.year) : l.par;
        int due = 0;
        if (last) {
            due = pool.size();
        } else if (l.plan.equals("even")) {
            due = l.bonds * w.year / l.years - (l.bonds - pool.size());
        } else if (l.plan.equals("sink")) {
            int more = l.sum - l.coupon * pool.size();
            l.fund += more < 0 ? 0 : more;
            while (due < pool.size() && l.fund >= cost) {
                due++;
                l.fund -= cost;
            }
        }
        Lot lot = new Lot();
        lot.wheel = l.wheel;
        lot.stood = new ArrayList<>(pool);
        lot.drawn = new ArrayList<>();
        for (int k = 1; k <= due; k++) {
            l.wheel = BigInteger.valueOf(l.wheel).multiply(BigInteger.valueOf(48271)).mod(BigInteger.valueOf(2147483647)).longValue();
            int n = pool.remove((int) (l.wheel % pool.size()));
            lot.drawn.add(n);
            Bond b = l.all.get(n - 1);
            b.year = w.year;
            b.place = k;
            if (buys) {
                b.state = 3;
                b.got += cost;
                w.pay(b.holder, cost);
                l.paid[2] += cost;
                l.paid[5] += l.par - cost;
            } else {
                b.state = 1;
                b.owed = l.par + l.prizes.getOrDefault(k, 0);
                l.paid[4] += b.owed;
            }
        }
        l.lots.put(w.year, lot);
        return due;
    }

    int claim(int h, int loan) {
        Loan l = at(loan);
        if (!isHolder(h) || l == null) {
            return -1;
        }
        if (held(h, loan, 1) == 0) {
            return 0;
        }
        did();
        int all = 0;
        for (Bond b : l.all) {
            if (b.state == 1 && b.holder == h) {
                b.state = 2;
                b.got += b.owed;
                l.paid[1] += b.owed;
                l.paid[4] -= b.owed;
                all += b.owed;
            }
        }
        w.pay(h, all);
        return all;
    }

    boolean sell(int loan, int number, int other, int price) {
        if (bond(loan, number, 0) != 0 || !isHolder(other) || price < 0 || price > 99999) {
            return false;
        }
        int own = at(loan).all.get(number - 1).holder;
        if (own < 0 || own == other || w.cash.get(other) < price) {
            return false;
        }
        did();
        w.cash.set(other, w.cash.get(other) - price);
        w.pay(own, price);
        at(loan).all.get(number - 1).holder = other;
        return true;
    }

    int put(int loan, int sum) {
        Loan l = at(loan);
        if (l == null || sum < 1 || sum > 99999 || !l.plan.equals("sink") || w.year >= l.years) {
            return -1;
        }
        did();
        l.fund += sum;
        return l.fund;
    }

    private boolean toCome(Loan l, int year) {
        return l != null && year > w.year && year <= l.years;
    }

    int priced(int loan, int year, int sum) {
        Loan l = at(loan);
        if (!toCome(l, year) || sum < 1 || sum > 999) {
            return -1;
        }
        did();
        int was = l.price(year);
        l.prices.put(year, sum);
        return was;
    }

    int wheel(int loan, int x) {
        Loan l = at(loan);
        if (l == null || x < 1 || x == Integer.MAX_VALUE) {
            return -1;
        }
        did();
        long was = l.wheel;
        l.wheel = x;
        return (int) was;
    }

    int undo() {
        if (back.isEmpty()) {
            return -1;
        }
        w = back.removeLast();
        return back.size();
    }

    boolean image(int k, boolean restore) {
        if (k < 0 || k > 1 || restore && images[k] == null) {
            return false;
        }
        if (restore) {
            w = images[k].copy();
            back.clear();
        } else {
            images[k] = w.copy();
        }
        return true;
    }

    // ---- the row of years: a world of one loan is let pass, so that the row and the years can't differ

    private Map<Integer, Coming> comings(Loan of) {
        Map<Integer, Coming> comings = new TreeMap<>();
        World kept = w;
        w = new World();
        w.year = kept.year;
        Loan l = of.copy();
        for (Bond b : l.all) {
            b.holder = -1;
        }
        while (w.year < l.years) {
            w.year++;
            Coming c = new Coming();
            c.stand = l.standing().size();
            long[] before = l.paid.clone();
            c.due = pass(l);
            c.interest = (int) (l.paid[0] - before[0]);
            c.bought = l.price(w.year) < l.par && w.year != l.years && !l.plan.equals("end");
            c.cost = c.bought ? l.price(w.year) : l.par;
            c.fund = l.fund;
            c.all = (int) (l.paid[0] + l.paid[2] + l.paid[4] - before[0] - before[2] - before[4]);
            comings.put(w.year, c);
        }
        w = kept;
        return comings;
    }

    int row(int loan, int year, int what) {
        Loan l = at(loan);
        if (!toCome(l, year) || what < 0 || what > 5) {
            return -1;
        }
        Coming c = comings(l).get(year);
        return new int[] {c.stand, c.interest, c.due, c.cost, c.bought ? 1 : 0, c.fund}[what];
    }

    long toPay(int loan) {
        return at(loan) == null ? -1 : comings(at(loan)).values().stream().mapToLong(c -> c.all).sum();
    }

    private long tell(BigInteger above, BigInteger under) {
        BigInteger g = above.gcd(under);
        below = under.divide(g);
        return above.divide(g).longValueExact();
    }

    private static BigInteger big(long x) {
        return BigInteger.valueOf(x);
    }

    private int standing(Loan l) {
        return l == null ? 0 : l.standing().size();
    }

    long odds(int loan, int year) {
        Loan l = at(loan);
        return !toCome(l, year) || standing(l) == 0 ? -1 : tell(big(comings(l).get(year).due), big(standing(l)));
    }

    private BigInteger[] weigh(Loan l, int i) {
        BigInteger q = big(100 + i).divide(big(100).gcd(big(100 + i)));
        BigInteger p = big(100).divide(big(100).gcd(big(100 + i)));
        int n = l.years - w.year;
        BigInteger under = q.pow(n).multiply(big(standing(l)));
        BigInteger above = BigInteger.ZERO;
        for (Map.Entry<Integer, Coming> e : comings(l).entrySet()) {
            int k = e.getKey() - w.year;
            above = above.add(big(e.getValue().all).multiply(p.pow(k)).multiply(q.pow(n - k)));
        }
        return under.compareTo(LIMIT) > 0 || above.compareTo(LIMIT) > 0 ? null : new BigInteger[] {above, under};
    }

    long worth(int loan, int i) {
        Loan l = at(loan);
        if (standing(l) == 0 || i < 0 || i > 99) {
            return -1;
        }
        BigInteger[] f = weigh(l, i);
        return f == null ? -2 : tell(f[0], f[1]);
    }

    long life(int loan) {
        Loan l = at(loan);
        if (standing(l) == 0) {
            return -1;
        }
        long all = 0;
        for (Map.Entry<Integer, Coming> e : comings(l).entrySet()) {
            all += (long) (e.getKey() - w.year) * e.getValue().due;
        }
        return tell(big(all), big(standing(l)));
    }

    int half(int loan) {
        Loan l = at(loan);
        if (standing(l) == 0) {
            return -1;
        }
        int gone = 0;
        for (Map.Entry<Integer, Coming> e : comings(l).entrySet()) {
            gone += e.getValue().due;
            if (gone + gone >= standing(l)) {
                return e.getKey();
            }
        }
        throw new IllegalStateException();
    }

    int yields(int loan, int price) {
        Loan l = at(loan);
        if (standing(l) == 0 || price < 1 || price > 99999) {
            return -1;
        }
        int best = -2;
        for (int i = 0; i <= 99; i++) {
            BigInteger[] f = weigh(l, i);
            if (f != null && f[0].compareTo(f[1].multiply(big(price))) >= 0) {
                best = i;
            }
        }
        return best;
    }

    private static BigInteger choose(int n, int k) {
        if (k < 0 || k > n) {
            return BigInteger.ZERO;
        }
        BigInteger c = BigInteger.ONE;
        for (int i = 0; i < k; i++) {
            c = c.multiply(big(n - i)).divide(big(i + 1));
        }
        return c;
    }

    long atLeast(int h, int loan, int j) {
        Loan l = at(loan);
        if (!isHolder(h) || l == null || j < 0 || j > 60 || w.year >= l.years) {
            return -1;
        }
        int s = standing(l);
        int m = held(h, loan, 0);
        int d = comings(l).get(w.year + 1).due;
        BigInteger fewer = BigInteger.ZERO;
        for (int k = 0; k < j; k++) {
            fewer = fewer.add(choose(m, k).multiply(choose(s - m, d - k)));
        }
        return tell(choose(s, d).subtract(fewer), choose(s, d));
    }

    long lasting(int h, int loan) {
        Loan l = at(loan);
        if (!isHolder(h) || l == null || w.year >= l.years || held(h, loan, 0) == 0) {
            return -1;
        }
        int gone = 0;
        for (Map.Entry<Integer, Coming> e : comings(l).entrySet()) {
            gone += e.getKey() < l.years ? e.getValue().due : 0;
        }
        BigInteger above = BigInteger.ONE;
        BigInteger under = BigInteger.ONE;
        for (int k = 0; k < held(h, loan, 0); k++) {
            above = above.multiply(big(Math.max(0, standing(l) - gone - k)));
            under = under.multiply(big(standing(l) - k));
        }
        return tell(above, under);
    }

    long below() {
        return below.longValueExact();
    }

    int ifPrice(int loan, int year, int price, int then) {
        if (!toCome(at(loan), year) || price < 1 || price > 999 || then < year || then > at(loan).years) {
            return -1;
        }
        Loan l = at(loan).copy();
        l.prices.put(year, price);
        Coming c = comings(l).get(then);
        return c.stand - c.due;
    }

    int needs(int loan, int year) {
        Loan l = at(loan);
        if (!toCome(l, year) || !l.plan.equals("sink")) {
            return -1;
        }
        for (int sum = 0; sum <= 99999; sum++) {
            if (leftWith(l, sum, year) == 0) {
                return sum;
            }
        }
        return -2;
    }

    private int leftWith(Loan l, int sum, int till) {
        int left = standing(l);
        int fund = l.fund + sum;
        for (int y = w.year + 1; y <= till; y++) {
            if (y == l.years) {
                return 0;
            }
            fund += Math.max(0, l.sum - l.coupon * left);
            int cost = Math.min(l.price(y), l.par);
            int due = Math.min(left, fund / cost);
            left -= due;
            fund -= due * cost;
        }
        return left;
    }

    // ---- those that were drawn

    int lot(int loan, int year, int k) {
        Loan l = at(loan);
        if (l == null || !l.lots.containsKey(year) || k < 0 || k > l.lots.get(year).drawn.size()) {
            return -1;
        }
        List<Integer> drawn = l.lots.get(year).drawn;
        return k == 0 ? drawn.size() : drawn.get(k - 1);
    }

    int replayed(int loan, int year, int x) {
        Loan l = at(loan);
        if (l == null || !l.lots.containsKey(year) || x < 0 || x == Integer.MAX_VALUE) {
            return -1;
        }
        Lot lot = l.lots.get(year);
        List<Integer> pool = new ArrayList<>(lot.stood);
        long wheel = x == 0 ? lot.wheel : x;
        int same = 0;
        for (int n : lot.drawn) {
            wheel = wheel * 48271 % 2147483647;
            if (pool.remove((int) (wheel % pool.size())) != n) {
                break;
            }
            same++;
        }
        return same;
    }

    int lastOne(int loan, int i) {
        Loan l = at(loan);
        if (l == null || w.year < l.years) {
            return -1;
        }
        List<Integer> those = new ArrayList<>(l.lots.get(l.years).drawn);
        Collections.sort(those);
        return i == -1 ? those.size() : i < 0 || i >= those.size() ? -2 : those.get(i);
    }

    private int[] luck(int h) {
        int[] f = new int[2];
        for (Loan l : w.loans) {
            for (Bond b : l.all) {
                if (b.holder == h && b.state != 0) {
                    f[0] += b.year;
                    f[1]++;
                }
            }
        }
        return f;
    }

    long mean(int h) {
        if (!isHolder(h)) {
            return -1;
        }
        int[] f = luck(h);
        return f[1] == 0 ? -2 : tell(big(f[0]), big(f[1]));
    }

    int unlucky(int i) {
        List<Integer> those = new ArrayList<>();
        for (int h = 0; h < w.cash.size(); h++) {
            if (luck(h)[1] > 0) {
                those.add(h);
            }
        }
        those.sort((a, b) -> luck(b)[0] * luck(a)[1] - luck(a)[0] * luck(b)[1]);
        return i == -1 ? those.size() : i < 0 || i >= those.size() ? -2 : those.get(i);
    }

    long paid(int loan, int what) {
        Loan l = at(loan);
        return l == null || what < 0 || what > 5 ? -1 : l.paid[what];
    }
}
