/** Every call with every mix of arguments from around their ends, right and wrong ones, in some YEARS: all against the Model. */
public final class SweepTest {
    private static final String TEXT = "loan s bonds 5 par 90 coupon 4 years 4 sink 160 lapse 2;loan v bonds 4 par 60 coupon 1 years 3 even;"
            + "loan e bonds 3 par 20 coupon 0 years 2 end lapse 1;holder h cash 99999;holder g cash 55;"
            + "holds h s 1 2;holds g s 4 5;holds h v 2 3;holds g e 1 3;prize s 1 30;prize v 2 9;price s 2 70;price v 1 59;";
    private static final int LEAST = Integer.MIN_VALUE;
    private static final int MOST = Integer.MAX_VALUE;
    private static final int[] LOANS = {LEAST, -2, -1, 0, 1, 2, 3, 4, MOST};
    private static final int[] HOLDERS = {LEAST, -2, -1, 0, 1, 2, 5, 6, MOST};
    private static final int[] YEARS = {LEAST, -1, 0, 1, 2, 3, 4, 5, 20, 21, 60, 61, MOST};
    private static final int[] NUMBERS = {LEAST, -1, 0, 1, 2, 3, 4, 5, 6, 60, 61, MOST};
    private static final int[] WHATS = {LEAST, -2, -1, 0, 1, 2, 3, 4, 5, 6, 7, 8, 9, 10, 11, MOST};
    private static final int[] PRICES = {LEAST, -1, 0, 1, 59, 60, 89, 90, 999, 1000, MOST};
    private static final int[] SUMS = {LEAST, -1, 0, 1, 55, 56, 99999, 100000, MOST};
    private static final int[] WHEELS = {LEAST, -1, 0, 1, 2, 48271, 2147483646, MOST};
    private static final int[] RATES = {LEAST, -1, 0, 1, 25, 99, 100, MOST};

    private final int passed;
    private DrawnBonds x;
    private Model m;
    private int calls;

    private SweepTest(int passed) {
        this.passed = passed;
        begin();
    }

    public static void main(String[] args) {
        for (int passed : new int[] {0, 1, 2, 3, 4, 7, 60}) {
            SweepTest sweep = new SweepTest(passed);
            sweep.ones();
            sweep.ofLoans();
            sweep.ofHolders();
            sweep.ofBonds();
            sweep.ofYears();
            sweep.deeds();
        }
        Check.end();
    }

    private void begin() {
        x = new DrawnBonds();
        m = new Model();
        Check.feed(x, TEXT);
        int fed = 0;
        for (int at = 0; at < TEXT.length(); at += 20) {
            int[] f = new int[5];
            for (int k = 0; k < 20; k++) {
                f[k / 4] = f[k / 4] << 8 | (at + k < TEXT.length() ? TEXT.charAt(at + k) : 32);
            }
            m.feed(f);
            fed++;
        }
        Check.due("text", x.text(TEXT.length()), m.text(TEXT.length()));
        for (int y = 0; y < passed; y++) {
            x.year();
            m.year();
        }
        x.image(1, false);
        m.image(1, false);
        calls = fed + 2 + passed;
    }

    /** Makes room for some more calls: an object has but 512. */
    private void room(int more) {
        calls += more;
        if (calls > 512) {
            begin();
            calls += more;
        }
    }

    private static String say(String call, int... args) {
        StringBuilder s = new StringBuilder(call);
        for (int a : args) {
            s.append(' ').append(a);
        }
        return s.toString();
    }

    private void fraction(String call, long got, long want) {
        Check.due(call, got, want);
        Check.due("below() behind " + call, x.below(), m.below());
    }

    /** What was done on both is looked at and taken back on both. */
    private void back(String call) {
        Check.due("done by " + call, x.count(8), m.count(8));
        Check.due("cash of 0 behind " + call, x.cash(0), m.cash(0));
        Check.due("cash of 1 behind " + call, x.cash(1), m.cash(1));
        if (x.count(8) > Math.min(12, passed)) {
            Check.due("undo of " + call, x.undo(), m.undo());
        } else if (passed >= 12) {
            // With twelve done already one can't see from outside whether there is one more: both go back to the IMAGE.
            Check.due("image", x.image(1, true), m.image(1, true));
        }
    }

    private void ones() {
        for (int a : WHATS) {
            room(3);
            Check.due(say("count", a), x.count(a), m.count(a));
            Check.due(say("unlucky", a), x.unlucky(a), m.unlucky(a));
            // A TEXT of 0 bytes would empty the house; THE TAPE is empty, so all others are refused.
            int bytes = a == 0 ? 701 : a;
            Check.due(say("text", bytes), x.text(bytes), m.text(bytes));
        }
        for (int h : HOLDERS) {
            room(3);
            Check.due(say("cash", h), x.cash(h), m.cash(h));
            fraction(say("mean", h), x.mean(h), m.mean(h));
        }
    }

    private void ofLoans() {
        for (int l : LOANS) {
            room(4);
            Check.due(say("toPay", l), x.toPay(l), m.toPay(l));
            Check.due(say("half", l), x.half(l), m.half(l));
            fraction(say("life", l), x.life(l), m.life(l));
            for (int a : WHATS) {
                room(3);
                Check.due(say("loan", l, a), Check.loan(x, l, a), loanOfModel(l, a));
                Check.due(say("paid", l, a), x.paid(l, a), m.paid(l, a));
                Check.due(say("lastOne", l, a), x.lastOne(l, a), m.lastOne(l, a));
            }
            for (int i : RATES) {
                room(2);
                fraction(say("worth", l, i), x.worth(l, i), m.worth(l, i));
            }
            for (int price : SUMS) {
                room(1);
                Check.due(say("yields", l, price), x.yields(l, price), m.yields(l, price));
            }
        }
    }

    private long loanOfModel(int l, int a) {
        try {
            return m.loan(l, a);
        } catch (java.util.NoSuchElementException e) {
            return Check.THROWN;
        }
    }

    private void ofHolders() {
        for (int h : HOLDERS) {
            for (int l : LOANS) {
                room(2);
                fraction(say("lasting", h, l), x.lasting(h, l), m.lasting(h, l));
                for (int a : WHATS) {
                    room(1);
                    Check.due(say("held", h, l, a), x.held(h, l, a), m.held(h, l, a));
                }
                for (int n : NUMBERS) {
                    room(3);
                    Check.due(say("standing", l, h, n), x.standing(l, h, n), m.standing(l, h, n));
                    fraction(say("atLeast", h, l, n), x.atLeast(h, l, n), m.atLeast(h, l, n));
                }
            }
        }
    }

    private void ofBonds() {
        for (int l : LOANS) {
            for (int n : NUMBERS) {
                for (int a : WHATS) {
                    room(1);
                    Check.due(say("bond", l, n, a), x.bond(l, n, a), m.bond(l, n, a));
                }
            }
        }
    }

    private void ofYears() {
        for (int l : LOANS) {
            for (int y : YEARS) {
                room(4);
                Check.due(say("price", l, y), x.price(l, y), m.price(l, y));
                Check.due(say("needs", l, y), x.needs(l, y), m.needs(l, y));
                fraction(say("odds", l, y), x.odds(l, y), m.odds(l, y));
                for (int a : WHATS) {
                    room(2);
                    Check.due(say("row", l, y, a), x.row(l, y, a), m.row(l, y, a));
                    Check.due(say("lot", l, y, a), x.lot(l, y, a), m.lot(l, y, a));
                }
                for (int wheel : WHEELS) {
                    room(1);
                    Check.due(say("replayed", l, y, wheel), x.replayed(l, y, wheel), m.replayed(l, y, wheel));
                }
                for (int price : PRICES) {
                    for (int then : YEARS) {
                        room(1);
                        Check.due(say("ifPrice", l, y, price, then), x.ifPrice(l, y, price, then), m.ifPrice(l, y, price, then));
                    }
                }
            }
        }
    }

    private void deeds() {
        for (int k : WHATS) {
            room(5);
            Check.due(say("image back", k), x.image(k, true), m.image(k, true));
            Check.due(say("image", k), x.image(k, false), m.image(k, false));
            Check.due("IMAGES", x.count(9), m.count(9));
            Check.due("done", x.count(8), m.count(8));
        }
        begin();
        for (int l : LOANS) {
            for (int wheel : WHEELS) {
                room(7);
                Check.due(say("wheel", l, wheel), x.wheel(l, wheel), m.wheel(l, wheel));
                back("wheel");
            }
            for (int sum : SUMS) {
                room(7);
                Check.due(say("put", l, sum), x.put(l, sum), m.put(l, sum));
                back("put");
            }
            for (int h : HOLDERS) {
                room(7);
                Check.due(say("claim", h, l), x.claim(h, l), m.claim(h, l));
                back("claim");
            }
            for (int y : YEARS) {
                for (int price : PRICES) {
                    room(7);
                    Check.due(say("priced", l, y, price), x.priced(l, y, price), m.priced(l, y, price));
                    back("priced");
                }
            }
            for (int n : NUMBERS) {
                sales(l, n);
            }
        }
        room(7);
        Check.due("year", x.year(), m.year());
        back("year");
    }

    private void sales(int l, int n) {
        for (int h : HOLDERS) {
            for (int sum : SUMS) {
                room(7);
                Check.due(say("sell", l, n, h, sum), x.sell(l, n, h, sum), m.sell(l, n, h, sum));
                back("sell");
            }
        }
    }
}
