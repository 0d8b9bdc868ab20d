import java.util.Arrays;
import java.util.NoSuchElementException;

/** A house of drawn bonds: loans told as a text, years that pass, lots, and what may come. */
public final class DrawnBonds {
    public static final int NONE = -1;

    private static final int NOTHING = -2;

    private static final int TAPE_BYTES = 700;
    private static final int MAX_LOANS = 4;
    private static final int MAX_HOLDERS = 6;
    private static final int MAX_HOLDINGS = 20;
    private static final int MAX_PRIZES = 12;
    private static final int MAX_PRICES = 24;
    private static final int MAX_BONDS = 60;
    private static final int MAX_YEARS = 20;
    private static final int MAX_RANK = 9;
    private static final int MAX_PAR = 999;
    private static final int MAX_SUM = 99999;
    private static final int MAX_CASH = 1000000000;
    private static final int LAST_YEAR = 60;
    private static final int MAX_UNDO = 12;
    private static final int IMAGES = 2;

    private static final int EVEN = 0;
    private static final int SINK = 1;
    private static final int END = 2;

    private static final int STANDS = 0;
    private static final int OWED = 1;
    private static final int PAID = 2;
    private static final int BOUGHT = 3;
    private static final int LAPSED = 4;

    private static final long WHEEL_FACTOR = 48271L;
    private static final long WHEEL_MODULUS = 2147483647L;
    private static final int MAX_WHEEL = 2147483646;

    private static final long HUGE_LIMIT = 1L << 62;

    private Terms terms = new Terms();
    private final State now = new State();
    private final State[] done = new State[MAX_UNDO];
    private int doneCount = 0;
    private final State[] images = new State[IMAGES];
    private final boolean[] imageLaid = new boolean[IMAGES];
    private long under = 1;

    // These hold what one call works out; they are made once, for room is counted over all calls.
    private final Reader reader = new Reader();
    private final Row years = new Row();
    private final Drum drum = new Drum();
    private final Discount discount = new Discount();
    private final Luck luck = new Luck();

    public DrawnBonds() {
    }

    // ---- the text

    public int feed(int a, int b, int c, int d, int e) {
        if (reader.fed + 20 > TAPE_BYTES) {
            return NONE;
        }
        reader.feedFour(a);
        reader.feedFour(b);
        reader.feedFour(c);
        reader.feedFour(d);
        reader.feedFour(e);
        return reader.fed;
    }

    public int text(int n) {
        if (n < 0 || n > reader.fed) {
            return NONE;
        }
        int lines = reader.read(n);
        if (lines < 0) {
            return lines;
        }
        terms = reader.exchange(terms);
        now.begin(terms);
        doneCount = 0;
        for (int k = 0; k < IMAGES; k++) {
            imageLaid[k] = false;
        }
        return lines;
    }

    // ---- what is so now

    public int count(int what) {
        switch (what) {
            case 0:
                return terms.loans;
            case 1:
                return terms.holders;
            case 2:
                return now.year;
            case 8:
                return doneCount;
            case 9:
                return countImages();
            case 10:
                return reader.fed;
            default:
                return what >= 3 && what <= 7 ? countOfAllLoans(what - 3) : NONE;
        }
    }

    private int countImages() {
        int laid = 0;
        for (int k = 0; k < IMAGES; k++) {
            if (imageLaid[k]) {
                laid++;
            }
        }
        return laid;
    }

    private int countOfAllLoans(int condition) {
        int all = 0;
        for (int loan = 0; loan < terms.loans; loan++) {
            all += now.countBonds(terms, loan, condition);
        }
        return all;
    }

    public int loan(int loan, int what) throws NoSuchElementException {
        if (!isLoan(loan)) {
            throw new NoSuchElementException("no such loan");
        }
        switch (what) {
            case 0:
                return terms.bonds[loan];
            case 1:
                return terms.par[loan];
            case 2:
                return terms.coupon[loan];
            case 3:
                return terms.years[loan];
            case 4:
                return terms.plan[loan];
            case 5:
                return terms.sum[loan];
            case 6:
                return terms.lapse[loan];
            case 7:
                return now.wheel[loan];
            case 8:
                return now.fund[loan];
            case 9:
                return now.countBonds(terms, loan, STANDS);
            default:
                throw new NoSuchElementException("a loan has nothing of that number");
        }
    }

    public int cash(int holder) {
        return isHolder(holder) ? now.cash[holder] : NONE;
    }

    public int held(int holder, int loan, int state) {
        if (!isHolder(holder) || !isLoan(loan) || state < STANDS || state > LAPSED) {
            return NONE;
        }
        return now.countHeld(terms, loan, state, holder);
    }

    public int bond(int loan, int number, int what) {
        if (!isBond(loan, number)) {
            return NOTHING;
        }
        int spot = spotOf(loan, number);
        switch (what) {
            case 0:
                return now.condition[spot];
            case 1:
                return now.owner[spot];
            case 2:
                return now.retired[spot];
            case 3:
                return now.place[spot];
            case 4:
                return gotBy(loan, spot);
            default:
                return NOTHING;
        }
    }

    /** All that a BOND GOT follows from how long it stood and how it is: nothing of it is kept. */
    private int gotBy(int loan, int spot) {
        return sharePaid(loan, spot, 0) + sharePaid(loan, spot, 1) + sharePaid(loan, spot, 2);
    }

    public int standing(int loan, int holder, int from) {
        if (!isBond(loan, from) || (holder != NONE && !isHolder(holder))) {
            return NONE;
        }
        for (int number = from; number <= terms.bonds[loan]; number++) {
            int spot = spotOf(loan, number);
            if (now.condition[spot] == STANDS && now.owner[spot] == holder) {
                return number;
            }
        }
        return NOTHING;
    }

    public int price(int loan, int year) {
        if (!isLoan(loan) || year < 1 || year > terms.years[loan]) {
            return NONE;
        }
        return now.price[cellOf(loan, year)];
    }

    // ---- what is done

    public int year() {
        if (now.year >= LAST_YEAR) {
            return NONE;
        }
        remember();
        int next = now.year + 1;
        int retired = 0;
        for (int loan = 0; loan < terms.loans; loan++) {
            if (next <= terms.years[loan]) {
                retired += passYear(loan, next);
            }
        }
        now.year = next;
        for (int loan = 0; loan < terms.loans; loan++) {
            lapseOld(loan);
        }
        return retired;
    }

    private int passYear(int loan, int next) {
        years.foresee(terms, now, loan);
        payInterest(loan);
        now.ahead[cellOf(loan, next)] = now.wheel[loan];
        drum.load(terms, now, loan, next, now.wheel[loan]);
        int condition = years.bought[next] == 1 ? BOUGHT : OWED;
        int due = years.due[next];
        for (int k = 1; k <= due; k++) {
            int number = drum.draw();
            if (number >= 1) {
                int spot = spotOf(loan, number);
                now.retire(spot, condition, next, k);
                now.pay(now.owner[spot], condition == BOUGHT ? years.cost[next] : 0);
            }
        }
        now.wheel[loan] = drum.x;
        now.fund[loan] = years.fund[next];
        return due;
    }

    private void payInterest(int loan) {
        for (int number = 1; number <= terms.bonds[loan]; number++) {
            int spot = spotOf(loan, number);
            if (now.condition[spot] == STANDS) {
                now.pay(now.owner[spot], terms.coupon[loan]);
            }
        }
    }

    private void lapseOld(int loan) {
        for (int number = 1; number <= terms.bonds[loan]; number++) {
            int spot = spotOf(loan, number);
            if (now.condition[spot] == OWED && now.year - now.retired[spot] >= terms.lapse[loan]) {
                now.condition[spot] = LAPSED;
            }
        }
    }

    public int claim(int holder, int loan) {
        if (!isHolder(holder) || !isLoan(loan)) {
            return NONE;
        }
        if (now.countHeld(terms, loan, OWED, holder) == 0) {
            return 0;
        }
        remember();
        int all = 0;
        for (int number = 1; number <= terms.bonds[loan]; number++) {
            int spot = spotOf(loan, number);
            if (now.condition[spot] == OWED && now.owner[spot] == holder) {
                all += drawnSum(loan, spot);
                now.condition[spot] = PAID;
            }
        }
        now.pay(holder, all);
        return all;
    }

    public boolean sell(int loan, int number, int other, int price) {
        if (!isBond(loan, number) || !isHolder(other) || price < 0 || price > MAX_SUM) {
            return false;
        }
        int spot = spotOf(loan, number);
        int own = now.owner[spot];
        if (now.condition[spot] != STANDS || own == NONE || own == other || now.cash[other] < price) {
            return false;
        }
        remember();
        now.cash[other] -= price;
        now.pay(own, price);
        now.owner[spot] = other;
        return true;
    }

    public int put(int loan, int sum) {
        if (!isLoan(loan) || sum < 1 || sum > MAX_SUM || terms.plan[loan] != SINK || isOver(loan)) {
            return NONE;
        }
        remember();
        now.fund[loan] += sum;
        return now.fund[loan];
    }

    public int priced(int loan, int year, int sum) {
        if (!isToCome(loan, year) || sum < 1 || sum > MAX_PAR) {
            return NONE;
        }
        remember();
        int cell = cellOf(loan, year);
        int was = now.price[cell];
        now.price[cell] = sum;
        return was;
    }

    public int wheel(int loan, int x) {
        if (!isLoan(loan) || x < 1 || x > MAX_WHEEL) {
            return NONE;
        }
        remember();
        int was = now.wheel[loan];
        now.wheel[loan] = x;
        return was;
    }

    /** Only the latest can be taken back, so the oldest gives its room to the newest. */
    private void remember() {
        if (doneCount >= MAX_UNDO) {
            State oldest = done[0];
            for (int k = 1; k < MAX_UNDO; k++) {
                done[k - 1] = done[k];
            }
            done[MAX_UNDO - 1] = oldest;
            doneCount = MAX_UNDO - 1;
        }
        State kept = done[doneCount];
        if (kept == null) {
            kept = new State();
            done[doneCount] = kept;
        }
        kept.become(now);
        doneCount++;
    }

    public int undo() {
        if (doneCount <= 0) {
            return NONE;
        }
        State kept = done[doneCount - 1];
        if (kept == null) {
            return NONE;
        }
        now.become(kept);
        doneCount--;
        return doneCount;
    }

    public boolean image(int k, boolean back) {
        if (k < 0 || k >= IMAGES || (back && !imageLaid[k])) {
            return false;
        }
        State laid = images[k];
        if (laid == null) {
            laid = new State();
            images[k] = laid;
        }
        if (back) {
            now.become(laid);
            doneCount = 0;
        } else {
            laid.become(now);
            imageLaid[k] = true;
        }
        return true;
    }

    // ---- the row of years

    public int row(int loan, int year, int what) {
        if (!isToCome(loan, year)) {
            return NONE;
        }
        years.foresee(terms, now, loan);
        switch (what) {
            case 0:
                return years.stand[year];
            case 1:
                return years.interest[year];
            case 2:
                return years.due[year];
            case 3:
                return years.cost[year];
            case 4:
                return years.bought[year];
            case 5:
                return years.fund[year];
            default:
                return NONE;
        }
    }

    public long toPay(int loan) {
        if (!isLoan(loan)) {
            return NONE;
        }
        years.foresee(terms, now, loan);
        long all = 0;
        for (int y = years.first; y <= years.last; y++) {
            all += years.payment(y);
        }
        return all;
    }

    public long odds(int loan, int year) {
        if (!isToCome(loan, year) || !foreseeStanding(loan)) {
            return NONE;
        }
        return tell(years.due[year], years.atFirst);
    }

    public long worth(int loan, int i) {
        if (i < 0 || i > 99 || !foreseeStanding(loan)) {
            return NONE;
        }
        if (!discount.weigh(years, i)) {
            return NOTHING;
        }
        return tell(discount.above, discount.under);
    }

    public long life(int loan) {
        if (!foreseeStanding(loan)) {
            return NONE;
        }
        long all = 0;
        for (int y = years.first; y <= years.last; y++) {
            all += (long) (y - now.year) * years.due[y];
        }
        return tell(all, years.atFirst);
    }

    public int half(int loan) {
        if (!foreseeStanding(loan)) {
            return NONE;
        }
        for (int y = years.first; y <= years.last; y++) {
            if (2 * (years.atFirst - years.leftBehind(y)) >= years.atFirst) {
                return y;
            }
        }
        return NONE;
    }

    public int yields(int loan, int price) {
        if (price < 1 || price > MAX_SUM || !foreseeStanding(loan)) {
            return NONE;
        }
        // WORTH that is HUGE for one i need not be so for a greater one: each is tried.
        for (int i = 99; i >= 0; i--) {
            if (discount.weigh(years, i) && discount.reaches(price)) {
                return i;
            }
        }
        return NOTHING;
    }

    public long atLeast(int holder, int loan, int j) {
        if (!isHolder(holder) || !isLoan(loan) || j < 0 || j > MAX_BONDS || isOver(loan)) {
            return NONE;
        }
        years.foresee(terms, now, loan);
        int due = years.due[now.year + 1];
        int own = now.countHeld(terms, loan, STANDS, holder);
        long sets = 0;
        for (int k = j; k <= own && k <= due; k++) {
            sets += choose(own, k) * choose(years.atFirst - own, due - k);
        }
        return tell(sets, choose(years.atFirst, due));
    }

    public long lasting(int holder, int loan) {
        if (!isHolder(holder) || !isLoan(loan) || isOver(loan)) {
            return NONE;
        }
        int own = now.countHeld(terms, loan, STANDS, holder);
        if (own == 0) {
            return NONE;
        }
        years.foresee(terms, now, loan);
        int gone = years.atFirst - years.stand[years.last];
        return tell(choose(years.atFirst - own, gone), choose(years.atFirst, gone));
    }

    public long below() {
        return under;
    }

    public int ifPrice(int loan, int year, int price, int then) {
        if (!isToCome(loan, year) || price < 1 || price > MAX_PAR || then < year || !isToCome(loan, then)) {
            return NONE;
        }
        years.open(terms, now, loan);
        years.run(0, year, price);
        return years.leftBehind(then);
    }

    public int needs(int loan, int year) {
        if (!isToCome(loan, year) || terms.plan[loan] != SINK) {
            return NONE;
        }
        years.open(terms, now, loan);
        // More put by can leave more standing (it buys dear before a cheap year), so no halving:
        // sums are tried upwards, but for those that draw the same numbers as the last one did.
        for (int more = 0; more <= MAX_SUM; more += Math.max(1, years.untilOtherwise(year))) {
            years.run(more, 0, 0);
            if (years.leftBehind(year) == 0) {
                return more;
            }
        }
        return NOTHING;
    }

    /** THE ROW of a LOAN of which some STAND: only such a one has ODDS, WORTH and LIFE. */
    private boolean foreseeStanding(int loan) {
        if (!isLoan(loan)) {
            return false;
        }
        years.foresee(terms, now, loan);
        return years.atFirst > 0;
    }

    private long tell(long above, long beneath) {
        long common = commonDivisor(above, beneath);
        if (common <= 0) {
            under = 1;
            return 0;
        }
        under = beneath / common;
        return above / common;
    }

    // ---- those that were drawn

    public int lot(int loan, int year, int k) {
        if (!isPassed(loan, year) || k < 0) {
            return NONE;
        }
        if (k == 0) {
            return now.countRetired(terms, loan, year);
        }
        int number = now.drawnAs(terms, loan, year, k);
        return number == 0 ? NONE : number;
    }

    public int replayed(int loan, int year, int x) {
        if (!isPassed(loan, year) || x < 0 || x > MAX_WHEEL) {
            return NONE;
        }
        drum.load(terms, now, loan, year, x == 0 ? now.ahead[cellOf(loan, year)] : x);
        int due = now.countRetired(terms, loan, year);
        int same = 0;
        while (same < due && drum.draw() == now.drawnAs(terms, loan, year, same + 1)) {
            same++;
        }
        return same;
    }

    public int lastOne(int loan, int i) {
        if (!isLoan(loan) || !isOver(loan)) {
            return NONE;
        }
        int last = terms.years[loan];
        if (i == NONE) {
            return now.countRetired(terms, loan, last);
        }
        if (i < 0) {
            return NOTHING;
        }
        int seen = 0;
        for (int number = 1; number <= terms.bonds[loan]; number++) {
            if (now.retired[spotOf(loan, number)] == last) {
                if (seen == i) {
                    return number;
                }
                seen++;
            }
        }
        return NOTHING;
    }

    public long mean(int holder) {
        if (!isHolder(holder)) {
            return NONE;
        }
        luck.reckon(terms, now);
        if (luck.retired[holder] == 0) {
            return NOTHING;
        }
        return tell(luck.years[holder], luck.retired[holder]);
    }

    public int unlucky(int i) {
        if (i < NONE) {
            return NOTHING;
        }
        luck.reckon(terms, now);
        int with = 0;
        for (int holder = 0; holder < terms.holders; holder++) {
            if (luck.retired[holder] > 0) {
                if (luck.placeOf(holder, terms.holders) == i) {
                    return holder;
                }
                with++;
            }
        }
        return i == NONE ? with : NOTHING;
    }

    public long paid(int loan, int what) {
        if (!isLoan(loan) || what < 0 || what > 5) {
            return NONE;
        }
        long all = 0;
        for (int number = 1; number <= terms.bonds[loan]; number++) {
            all += sharePaid(loan, spotOf(loan, number), what);
        }
        return all;
    }

    /** What one BOND adds to what a LOAN paid; prices of years that passed never change, so they tell COST. */
    private int sharePaid(int loan, int spot, int what) {
        int condition = now.condition[spot];
        switch (what) {
            case 0:
                return terms.coupon[loan] * (condition == STANDS ? now.year : now.retired[spot]);
            case 1:
                return condition == PAID ? drawnSum(loan, spot) : 0;
            case 2:
                return condition == BOUGHT ? now.price[cellOf(loan, now.retired[spot])] : 0;
            case 3:
                return condition == LAPSED ? drawnSum(loan, spot) : 0;
            case 4:
                return condition == OWED ? drawnSum(loan, spot) : 0;
            default:
                return condition == BOUGHT ? terms.par[loan] - now.price[cellOf(loan, now.retired[spot])] : 0;
        }
    }

    private int drawnSum(int loan, int spot) {
        return terms.par[loan] + terms.prizeOf(loan, now.place[spot]);
    }

    // ---- what there is

    private boolean isLoan(int loan) {
        return loan >= 0 && loan < terms.loans;
    }

    private boolean isHolder(int holder) {
        return holder >= 0 && holder < terms.holders;
    }

    private boolean isBond(int loan, int number) {
        return isLoan(loan) && number >= 1 && number <= terms.bonds[loan];
    }

    /** A LOAN whose last year has passed. */
    private boolean isOver(int loan) {
        return now.year >= terms.years[loan];
    }

    private boolean isToCome(int loan, int year) {
        return isLoan(loan) && year > now.year && year <= terms.years[loan];
    }

    private boolean isPassed(int loan, int year) {
        return isLoan(loan) && year >= 1 && year <= now.year && year <= terms.years[loan];
    }

    /** Where a BOND has its place in rows of all BONDS. */
    private static int spotOf(int loan, int number) {
        return loan * MAX_BONDS + number - 1;
    }

    private static int cellOf(int loan, int year) {
        return loan * (MAX_YEARS + 1) + year;
    }

    private static long commonDivisor(long a, long b) {
        long x = a;
        long y = b;
        // Euclid's way takes fewer than 100 steps with numbers below 2 to the 63.
        for (int step = 0; step < 200 && y != 0; step++) {
            long rest = x % y;
            x = y;
            y = rest;
        }
        return x;
    }

    /** Sets of k out of n, n to 60: all that arises on the way is below 2 to the 63. */
    private static long choose(int n, int k) {
        if (k < 0 || k > n) {
            return 0;
        }
        int few = Math.min(k, n - k);
        long sets = 1;
        for (int i = 1; i <= few; i++) {
            sets = sets * (n - few + i) / i;
        }
        return sets;
    }

    /** What a TEXT told; only another TEXT changes it. */
    private static final class Terms {
        int loans = 0;
        int holders = 0;
        int holdings = 0;
        int prizes = 0;
        int prices = 0;
        final int[] loanName = new int[MAX_LOANS];
        final int[] bonds = new int[MAX_LOANS];
        final int[] par = new int[MAX_LOANS];
        final int[] coupon = new int[MAX_LOANS];
        final int[] years = new int[MAX_LOANS];
        final int[] plan = new int[MAX_LOANS];
        final int[] sum = new int[MAX_LOANS];
        final int[] lapse = new int[MAX_LOANS];
        final int[] holderName = new int[MAX_HOLDERS];
        final int[] cash = new int[MAX_HOLDERS];
        final int[] owner = new int[MAX_LOANS * MAX_BONDS];
        final int[] prize = new int[MAX_LOANS * (MAX_RANK + 1)];
        final int[] price = new int[MAX_LOANS * (MAX_YEARS + 1)];

        void clear() {
            loans = 0;
            holders = 0;
            holdings = 0;
            prizes = 0;
            prices = 0;
            Arrays.fill(owner, NONE);
            Arrays.fill(prize, 0);
            Arrays.fill(price, 0);
        }

        int loanCalled(int name) {
            for (int loan = 0; loan < loans; loan++) {
                if (loanName[loan] == name) {
                    return loan;
                }
            }
            return NONE;
        }

        int holderCalled(int name) {
            for (int holder = 0; holder < holders; holder++) {
                if (holderName[holder] == name) {
                    return holder;
                }
            }
            return NONE;
        }

        boolean anyHeld(int loan, int first, int second) {
            for (int number = first; number <= second; number++) {
                if (owner[spotOf(loan, number)] != NONE) {
                    return true;
                }
            }
            return false;
        }

        void hold(int holder, int loan, int first, int second) {
            for (int number = first; number <= second; number++) {
                owner[spotOf(loan, number)] = holder;
            }
        }

        int prizeOf(int loan, int rank) {
            return rank >= 1 && rank <= MAX_RANK ? prize[rankOf(loan, rank)] : 0;
        }

        static int rankOf(int loan, int rank) {
            return loan * (MAX_RANK + 1) + rank;
        }
    }

    /** THE TAPE; its TEXT is read token by token, so the first FAULT met is the one whose place is least. */
    private static final class Reader {
        private static final int NO_TOKEN = 0;
        private static final int WORD = 1;
        private static final int NUMBER = 2;
        private static final int SIGN = 3;

        private static final int NOT_SO = 1;
        private static final int TWICE = 2;
        private static final int UNKNOWN = 3;
        private static final int CANNOT_BE = 4;
        private static final int TOO_MANY = 5;

        private static final int NAME_LETTERS = 6;
        private static final int NUMBER_DIGITS = 5;

        private final int[] tape = new int[TAPE_BYTES];
        int fed = 0;
        private int length = 0;
        // A draft: what a TEXT with a FAULT told must not touch what stands.
        private Terms terms = new Terms();
        private int kind = NO_TOKEN;
        private int at = 0;
        private int end = 0;
        // Of a NUMBER: what it is, NONE with too many digits. Of a WORD: its code, NONE if too long for a NAME.
        private int value = 0;
        private int fault = 0;

        void feedFour(int four) {
            for (int shift = 24; shift >= 0; shift -= 8) {
                if (fed < TAPE_BYTES) {
                    tape[fed] = (four >>> shift) & 255;
                    fed++;
                }
            }
        }

        /** What was read, for older terms, whose room the next TEXT takes. */
        Terms exchange(Terms old) {
            Terms fresh = terms;
            terms = old;
            return fresh;
        }

        /** How many LINES there are, or -2 less the FAULT; THE TAPE is empty then. */
        int read(int bytes) {
            terms.clear();
            length = Math.min(bytes, fed);
            fed = 0;
            end = 0;
            fault = 0;
            advance();
            int lines = 0;
            while (lines <= length && at < length) {
                boolean good = spells("loan") ? readLoan()
                        : spells("holder") ? readHolder()
                        : spells("holds") ? readHolds()
                        : spells("prize") ? readPrize()
                        : spells("price") ? readPrice()
                        : refuse(NOT_SO);
                if (!good) {
                    return -2 - fault;
                }
                lines++;
            }
            return lines;
        }

        private boolean readLoan() {
            int k = terms.loans;
            if (k >= MAX_LOANS) {
                return refuse(TOO_MANY);
            }
            advance();
            boolean good = newName(terms.loanName, k)
                    && word("bonds") && number(terms.bonds, k, 1, MAX_BONDS)
                    && word("par") && number(terms.par, k, 1, MAX_PAR)
                    && word("coupon") && number(terms.coupon, k, 0, 99)
                    && word("years") && number(terms.years, k, 1, MAX_YEARS)
                    && readPlan(k) && readLapse(k) && sign();
            if (good) {
                terms.loans++;
            }
            return good;
        }

        private boolean readPlan(int k) {
            terms.sum[k] = 0;
            if (spells("sink")) {
                terms.plan[k] = SINK;
                advance();
                return number(terms.sum, k, 1, MAX_SUM);
            }
            terms.plan[k] = spells("even") ? EVEN : END;
            return spells("even") ? word("even") : word("end");
        }

        private boolean readLapse(int k) {
            terms.lapse[k] = MAX_YEARS;
            if (!spells("lapse")) {
                return true;
            }
            advance();
            return number(terms.lapse, k, 1, MAX_YEARS);
        }

        private boolean readHolder() {
            int k = terms.holders;
            if (k >= MAX_HOLDERS) {
                return refuse(TOO_MANY);
            }
            advance();
            boolean good = newName(terms.holderName, k) && word("cash") && number(terms.cash, k, 0, MAX_SUM) && sign();
            if (good) {
                terms.holders++;
            }
            return good;
        }

        private boolean readHolds() {
            if (terms.holdings >= MAX_HOLDINGS) {
                return refuse(TOO_MANY);
            }
            terms.holdings++;
            advance();
            int holder = knownHolder();
            if (holder == NONE) {
                return false;
            }
            int loan = knownLoan();
            if (loan == NONE || !fits(1, terms.bonds[loan])) {
                return false;
            }
            int first = value;
            advance();
            if (!fits(first, terms.bonds[loan])) {
                return false;
            }
            if (terms.anyHeld(loan, first, value)) {
                return refuse(TWICE);
            }
            terms.hold(holder, loan, first, value);
            advance();
            return sign();
        }

        private boolean readPrize() {
            if (terms.prizes >= MAX_PRIZES) {
                return refuse(TOO_MANY);
            }
            terms.prizes++;
            advance();
            int loan = knownLoan();
            if (loan == NONE || !fits(1, MAX_RANK)) {
                return false;
            }
            return sumOnce(terms.prize, Terms.rankOf(loan, value), 9999);
        }

        private boolean readPrice() {
            if (terms.prices >= MAX_PRICES) {
                return refuse(TOO_MANY);
            }
            terms.prices++;
            advance();
            int loan = knownLoan();
            if (loan == NONE || !fits(1, terms.years[loan])) {
                return false;
            }
            return sumOnce(terms.price, cellOf(loan, value), MAX_PAR);
        }

        /** A RANK or YEAR stands here, and its sum behind it; sums are above 0, so 0 is one not told yet. */
        private boolean sumOnce(int[] sums, int k, int most) {
            if (sums[k] != 0) {
                return refuse(TWICE);
            }
            advance();
            return number(sums, k, 1, most) && sign();
        }

        private boolean newName(int[] names, int k) {
            if (!isName()) {
                return refuse(NOT_SO);
            }
            if (terms.loanCalled(value) != NONE || terms.holderCalled(value) != NONE) {
                return refuse(TWICE);
            }
            names[k] = value;
            advance();
            return true;
        }

        private int knownHolder() {
            return known(isName() ? terms.holderCalled(value) : NONE);
        }

        private int knownLoan() {
            return known(isName() ? terms.loanCalled(value) : NONE);
        }

        private int known(int found) {
            if (found == NONE) {
                refuse(isName() ? UNKNOWN : NOT_SO);
            } else {
                advance();
            }
            return found;
        }

        private boolean number(int[] row, int k, int least, int most) {
            if (!fits(least, most)) {
                return false;
            }
            row[k] = value;
            advance();
            return true;
        }

        private boolean fits(int least, int most) {
            if (kind != NUMBER) {
                return refuse(NOT_SO);
            }
            return value >= least && value <= most ? true : refuse(CANNOT_BE);
        }

        private boolean word(String text) {
            if (!spells(text)) {
                return refuse(NOT_SO);
            }
            advance();
            return true;
        }

        private boolean sign() {
            if (kind != SIGN) {
                return refuse(NOT_SO);
            }
            advance();
            return true;
        }

        private boolean refuse(int what) {
            fault = 8 * at + what;
            return false;
        }

        private boolean isName() {
            return kind == WORD && value != NONE
                    && !spells("loan") && !spells("bonds") && !spells("par") && !spells("coupon")
                    && !spells("years") && !spells("even") && !spells("end") && !spells("sink")
                    && !spells("lapse") && !spells("holder") && !spells("cash") && !spells("holds")
                    && !spells("prize") && !spells("price");
        }

        private boolean spells(String text) {
            if (kind != WORD || end - at != text.length()) {
                return false;
            }
            for (int i = 0; i < text.length(); i++) {
                if (tape[at + i] != text.charAt(i)) {
                    return false;
                }
            }
            return true;
        }

        /** To the next TOKEN, or to the end, or to a byte that begins none. */
        private void advance() {
            at = end;
            while (at < length && (tape[at] == 32 || tape[at] == 10)) {
                at++;
            }
            end = at;
            kind = at < length ? kindOf(tape[at]) : NO_TOKEN;
            if (kind == SIGN) {
                end = at + 1;
            } else if (kind != NO_TOKEN) {
                takeAlike();
            }
        }

        /** Two words of up to six letters have the same code only if they are alike: 27 to the 6 is below 2 to the 31. */
        private void takeAlike() {
            int low = kind == WORD ? 'a' : '0';
            int high = kind == WORD ? 'z' : '9';
            int base = kind == WORD ? 27 : 10;
            int zero = kind == WORD ? 'a' - 1 : '0';
            int most = kind == WORD ? NAME_LETTERS : NUMBER_DIGITS;
            value = 0;
            while (end < length && tape[end] >= low && tape[end] <= high) {
                value = end - at < most ? value * base + (tape[end] - zero) : NONE;
                end++;
            }
        }

        private static int kindOf(int sign) {
            if (sign >= 'a' && sign <= 'z') {
                return WORD;
            }
            if (sign >= '0' && sign <= '9') {
                return NUMBER;
            }
            return sign == ';' ? SIGN : NO_TOKEN;
        }
    }

    /** All that years and deeds change: it is what is taken back and what IMAGES hold. */
    private static final class State {
        int year = 0;
        final int[] cash = new int[MAX_HOLDERS];
        final int[] wheel = new int[MAX_LOANS];
        final int[] fund = new int[MAX_LOANS];
        final int[] price = new int[MAX_LOANS * (MAX_YEARS + 1)];
        // The WHEEL as it was ahead of each YEAR's LOT.
        final int[] ahead = new int[MAX_LOANS * (MAX_YEARS + 1)];
        final int[] condition = new int[MAX_LOANS * MAX_BONDS];
        final int[] owner = new int[MAX_LOANS * MAX_BONDS];
        final int[] retired = new int[MAX_LOANS * MAX_BONDS];
        final int[] place = new int[MAX_LOANS * MAX_BONDS];

        void begin(Terms terms) {
            year = 0;
            System.arraycopy(terms.cash, 0, cash, 0, cash.length);
            System.arraycopy(terms.owner, 0, owner, 0, owner.length);
            Arrays.fill(fund, 0);
            Arrays.fill(ahead, 0);
            Arrays.fill(condition, STANDS);
            Arrays.fill(retired, 0);
            Arrays.fill(place, 0);
            for (int loan = 0; loan < terms.loans; loan++) {
                wheel[loan] = loan + 1;
                beginPrices(terms, loan);
            }
        }

        private void beginPrices(Terms terms, int loan) {
            for (int y = 1; y <= terms.years[loan]; y++) {
                int cell = cellOf(loan, y);
                price[cell] = terms.price[cell] == 0 ? terms.par[loan] : terms.price[cell];
            }
        }

        void become(State other) {
            year = other.year;
            System.arraycopy(other.cash, 0, cash, 0, cash.length);
            System.arraycopy(other.wheel, 0, wheel, 0, wheel.length);
            System.arraycopy(other.fund, 0, fund, 0, fund.length);
            System.arraycopy(other.price, 0, price, 0, price.length);
            System.arraycopy(other.ahead, 0, ahead, 0, ahead.length);
            System.arraycopy(other.condition, 0, condition, 0, condition.length);
            System.arraycopy(other.owner, 0, owner, 0, owner.length);
            System.arraycopy(other.retired, 0, retired, 0, retired.length);
            System.arraycopy(other.place, 0, place, 0, place.length);
        }

        void pay(int holder, int sum) {
            if (holder >= 0 && holder < cash.length) {
                cash[holder] = Math.min(MAX_CASH, cash[holder] + sum);
            }
        }

        void retire(int spot, int as, int inYear, int k) {
            condition[spot] = as;
            retired[spot] = inYear;
            place[spot] = k;
        }

        int countBonds(Terms terms, int loan, int as) {
            int all = 0;
            for (int number = 1; number <= terms.bonds[loan]; number++) {
                if (condition[spotOf(loan, number)] == as) {
                    all++;
                }
            }
            return all;
        }

        int countHeld(Terms terms, int loan, int as, int holder) {
            int all = 0;
            for (int number = 1; number <= terms.bonds[loan]; number++) {
                int spot = spotOf(loan, number);
                if (condition[spot] == as && owner[spot] == holder) {
                    all++;
                }
            }
            return all;
        }

        int countRetired(Terms terms, int loan, int inYear) {
            int all = 0;
            for (int number = 1; number <= terms.bonds[loan]; number++) {
                if (retired[spotOf(loan, number)] == inYear) {
                    all++;
                }
            }
            return all;
        }

        /** The number of the k-th BOND of a LOT; 0 without one. */
        int drawnAs(Terms terms, int loan, int inYear, int k) {
            for (int number = 1; number <= terms.bonds[loan]; number++) {
                int spot = spotOf(loan, number);
                if (retired[spot] == inYear && place[spot] == k) {
                    return number;
                }
            }
            return 0;
        }
    }

    /** THE ROW of a LOAN; each of its arrays but prize has one place a YEAR. */
    private static final class Row {
        private int bonds = 0;
        private int par = 0;
        private int coupon = 0;
        private int plan = 0;
        private int sum = 0;
        private int fundNow = 0;
        private final int[] price = new int[MAX_YEARS + 1];
        private final int[] prize = new int[MAX_RANK + 1];
        int first = 0;
        int last = 0;
        int atFirst = 0;
        final int[] stand = new int[MAX_YEARS + 1];
        final int[] interest = new int[MAX_YEARS + 1];
        final int[] due = new int[MAX_YEARS + 1];
        final int[] cost = new int[MAX_YEARS + 1];
        final int[] bought = new int[MAX_YEARS + 1];
        final int[] fund = new int[MAX_YEARS + 1];

        void foresee(Terms terms, State state, int loan) {
            open(terms, state, loan);
            run(0, 0, 0);
        }

        void open(Terms terms, State state, int loan) {
            bonds = terms.bonds[loan];
            par = terms.par[loan];
            coupon = terms.coupon[loan];
            plan = terms.plan[loan];
            sum = terms.sum[loan];
            fundNow = state.fund[loan];
            first = state.year + 1;
            last = terms.years[loan];
            atFirst = state.countBonds(terms, loan, STANDS);
            System.arraycopy(state.price, cellOf(loan, 0), price, 0, price.length);
            System.arraycopy(terms.prize, Terms.rankOf(loan, 0), prize, 0, prize.length);
        }

        /** The years as they come if the FUND is more by a sum, and one YEAR (0: none) has another price. */
        void run(int more, int otherYear, int otherPrice) {
            int left = atFirst;
            int put = fundNow + more;
            for (int y = first; y <= last; y++) {
                stand[y] = left;
                interest[y] = left * coupon;
                setCost(y, y == otherYear ? otherPrice : price[y]);
                fund[y] = put;
                setDue(y);
                left -= due[y];
                put = fund[y];
            }
        }

        private void setCost(int y, int priceThen) {
            boolean buys = priceThen < par && y != last && plan != END;
            bought[y] = buys ? 1 : 0;
            cost[y] = buys ? priceThen : par;
        }

        private void setDue(int y) {
            if (y == last) {
                due[y] = stand[y];
            } else if (plan == EVEN) {
                int retired = bonds - stand[y];
                due[y] = last > 0 ? bonds * y / last - retired : 0;
            } else if (plan == SINK) {
                fund[y] += Math.max(0, sum - interest[y]);
                due[y] = cost[y] > 0 ? Math.min(stand[y], fund[y] / cost[y]) : 0;
                fund[y] -= due[y] * cost[y];
            } else {
                due[y] = 0;
            }
        }

        int leftBehind(int y) {
            return stand[y] - due[y];
        }

        int payment(int y) {
            int all = interest[y] + due[y] * cost[y];
            for (int rank = 1; rank <= MAX_RANK && rank <= due[y] && bought[y] == 0; rank++) {
                all += prize[rank];
            }
            return all;
        }

        /** By how much the FUND must be more for some DUE, of the years to one behind which some stand, to change. */
        int untilOtherwise(int year) {
            int least = MAX_SUM;
            for (int y = first; y <= year; y++) {
                least = Math.min(least, cost[y] - fund[y]);
            }
            return least;
        }
    }

    /** The WHEEL, and the numbers that it can still draw. */
    private static final class Drum {
        private final int[] numbers = new int[MAX_BONDS];
        private int left = 0;
        int x = 0;

        /** With the BONDS that stood at the beginning of a YEAR. */
        void load(Terms terms, State state, int loan, int year, int wheel) {
            x = wheel;
            left = 0;
            for (int number = 1; number <= terms.bonds[loan]; number++) {
                int retired = state.retired[spotOf(loan, number)];
                if (left < MAX_BONDS && (retired == 0 || retired >= year)) {
                    numbers[left] = number;
                    left++;
                }
            }
        }

        /** The number of the next one; 0 if there is none. */
        int draw() {
            if (left <= 0) {
                return 0;
            }
            x = (int) (WHEEL_FACTOR * x % WHEEL_MODULUS);
            int at = Math.floorMod(x, left);
            int number = numbers[at];
            left--;
            for (int i = at; i < left; i++) {
                numbers[i] = numbers[i + 1];
            }
            return number;
        }
    }

    /** WORTH as a fraction that is not in least terms yet. */
    private static final class Discount {
        long above = 0;
        long under = 1;

        /** False if WORTH is HUGE. */
        boolean weigh(Row row, int i) {
            long common = commonDivisor(100, 100 + i);
            if (common <= 0) {
                return false;
            }
            long p = 100 / common;
            long q = (100 + i) / common;
            under = row.atFirst;
            for (int y = row.first; y <= row.last; y++) {
                under = times(under, q);
            }
            if (under > HUGE_LIMIT) {
                return false;
            }
            // p is not above q, so no power of p goes beyond the limit from here on.
            above = 0;
            long power = 1;
            for (int y = row.first; y <= row.last; y++) {
                power = times(power, p);
                above = plus(times(above, q), times(row.payment(y), power));
            }
            return above <= HUGE_LIMIT;
        }

        boolean reaches(int price) {
            return under > 0 && above / under >= price;
        }

        /** Of numbers from 0 on; what goes beyond the limit is one above it. */
        private static long times(long a, long b) {
            if (a <= 0 || b <= 0) {
                return 0;
            }
            return a > HUGE_LIMIT / b ? HUGE_LIMIT + 1 : a * b;
        }

        private static long plus(long a, long b) {
            return a > HUGE_LIMIT - b ? HUGE_LIMIT + 1 : a + b;
        }
    }

    /** Of each HOLDER: how many of its BONDS are RETIRED, and in which YEARS, together. */
    private static final class Luck {
        final int[] years = new int[MAX_HOLDERS];
        final int[] retired = new int[MAX_HOLDERS];

        void reckon(Terms terms, State state) {
            Arrays.fill(years, 0);
            Arrays.fill(retired, 0);
            for (int loan = 0; loan < terms.loans; loan++) {
                for (int number = 1; number <= terms.bonds[loan]; number++) {
                    int spot = spotOf(loan, number);
                    int holder = state.owner[spot];
                    if (holder >= 0 && holder < MAX_HOLDERS && state.condition[spot] != STANDS) {
                        years[holder] += state.retired[spot];
                        retired[holder]++;
                    }
                }
            }
        }

        /** How many of the UNLUCKY come ahead of one. */
        int placeOf(int holder, int holders) {
            int ahead = 0;
            for (int other = 0; other < holders; other++) {
                if (retired[other] > 0 && comesFirst(other, holder)) {
                    ahead++;
                }
            }
            return ahead;
        }

        private boolean comesFirst(int other, int holder) {
            int its = years[other] * retired[holder];
            int own = years[holder] * retired[other];
            return its > own || (its == own && other < holder);
        }
    }
}
