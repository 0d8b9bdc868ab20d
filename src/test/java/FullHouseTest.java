/** As much of everything as a TEXT may tell, and one object that reads many TEXTS. */
public final class FullHouseTest {
    private static final String LOANS = "loan a bonds60par1coupon0years20even;loan b bonds60par2coupon99years20sink1lapse1;"
            + "loan c bonds60par3coupon1years20end;loan d bonds60par999coupon99years20sink99999;";
    private static final String HOLDERS = "holder p cash0;holder q cash1;holder r cash2;holder s cash3;holder t cash4;holder u cash5;";

    public static void main(String[] args) {
        allBonds();
        allYears();
        allLots();
        rankNine();
        rankNineOfTheLast();
        costOne();
        readAgain();
        Check.end();
    }

    private static String holdings() {
        StringBuilder t = new StringBuilder();
        for (int k = 0; k < 20; k++) {
            t.append("holds ").append("pqrstu".charAt(k % 6)).append(' ').append("abcd".charAt(k / 5)).append(' ')
                    .append(k % 5 * 12 + 1).append(' ').append(k % 5 * 12 + 12).append(';');
        }
        return t.toString();
    }

    private static void allBonds() {
        DrawnBonds x = Check.house(LOANS + HOLDERS + holdings());
        Check.due("LOANS", x.count(0), 4);
        Check.due("HOLDERS", x.count(1), 6);
        Check.due("BONDS", x.count(3), 240);
        for (int l = 0; l < 4; l++) {
            Check.due("WHEEL", Check.loan(x, l, 7), l + 1);
            for (int n = 1; n <= 60; n++) {
                Check.due("holder of " + l + " " + n, x.bond(l, n, 1), (l * 5 + (n - 1) / 12) % 6);
            }
        }
        Check.due("bond 61", x.bond(3, 61, 0), -2);
        Check.due("loan 4", x.bond(4, 1, 0), -2);
        Check.due("loan 4 throws", Check.loan(x, 4, 0), Check.THROWN);
        Check.due("cash", x.cash(5), 5);
        Check.due("holder 6", x.cash(6), -1);
    }

    private static void allYears() {
        DrawnBonds x = Check.house(LOANS + HOLDERS + holdings());
        int retired = 0;
        for (int y = 1; y <= 20; y++) {
            retired += x.year();
            Check.due("three more of a in " + y, x.lot(0, y, 0), 3);
            Check.due("replayed", x.replayed(0, y, 0), 3);
        }
        Check.due("all", retired, 240);
        Check.due("none STAND", x.count(3), 0);
        Check.due("d was drawn at once", x.lot(3, 1, 0), 60);
        Check.due("as it was", x.replayed(3, 1, 0), 60);
        Check.due("c at the end", x.lot(2, 20, 0), 60);
        Check.due("as it was", x.replayed(2, 20, 0), 60);
        Check.due("the last of c", x.lastOne(2, 59), 60);
        Check.due("the first of c", x.lastOne(2, 0), 1);
        Check.due("how many", x.lastOne(2, -1), 60);
        Check.due("and no more", x.lastOne(2, 60), -2);
        Check.due("UNLUCKY", x.unlucky(-1), 6);
        boolean[] seen = new boolean[6];
        long years = Long.MAX_VALUE;
        long by = 1;
        for (int i = 0; i < 6; i++) {
            int h = x.unlucky(i);
            Check.due("each once", seen[h], false);
            seen[h] = true;
            long m = x.mean(h);
            Check.due("the greatest first", i == 0 || m * by <= years * x.below(), true);
            years = m;
            by = x.below();
        }
    }

    private static void allLots() {
        for (int l = 0; l < 4; l++) {
            DrawnBonds x = Check.house(LOANS + HOLDERS + holdings());
            Check.years(x, 20);
            for (int n = 1; n <= 60; n++) {
                Check.due("lot of " + l + " " + n, x.lot(l, x.bond(l, n, 2), x.bond(l, n, 3)), n);
            }
        }
    }

    private static void rankNine() {
        DrawnBonds x = Check.house("loan z bonds 1 par 1 coupon 0 years 9 end;loan a bonds 12 par 10 coupon 0 years 1 end;"
                + "holder h cash 0;holds h a 1 12;prize a 9 500;prize a 1 3;prize z 9 7000;");
        Check.due("prizes to come", x.toPay(1), 623);
        Check.due("none of RANK 9 with one", x.toPay(0), 1);
        Check.fraction("worth", x, x.worth(1, 0), 623, 12);
        x.year();
        Check.due("owed", x.paid(1, 4), 623);
        Check.due("claimed", x.claim(0, 1), 623);
        for (int k = 1; k <= 12; k++) {
            Check.due("got " + k, x.bond(1, x.lot(1, 1, k), 4), k == 9 ? 510 : k == 1 ? 13 : 10);
        }
    }

    private static void rankNineOfTheLast() {
        DrawnBonds x = Check.house(LOANS + "prize d 9 9999;prize d 1 1;prize c 9 5;prize a 1 7;price d 20 5;price c 20 4;");
        Check.due("prizes of d", x.toPay(3), 60 * 99 + 60 * 999 + 10000);
        Check.due("prizes of c", x.toPay(2), 20 * 60 + 180 + 5);
        Check.due("prizes of a", x.toPay(0), 60 + 20 * 7);
        Check.due("price of c", x.price(2, 20), 4);
        Check.due("price of d", x.price(3, 20), 5);
        Check.due("no other price", x.price(3, 1), 999);
    }

    private static void costOne() {
        DrawnBonds x = Check.house("loan a bonds 5 par 2 coupon 0 years 3 sink 3;price a 1 1;loan b bonds 5 par 1 coupon 0 years 3 sink 3;");
        Check.due("bought for 1", x.row(0, 1, 2), 3);
        Check.due("drawn at par 1", x.row(1, 1, 2), 3);
        Check.due("year", x.year(), 6);
    }

    private static void readAgain() {
        DrawnBonds x = new DrawnBonds();
        String many = "loan a bonds60par1coupon0years20even;loan b bonds60par1coupon0years20even;" + HOLDERS + "PRIZES" + "PRICES";
        StringBuilder prizes = new StringBuilder();
        StringBuilder prices = new StringBuilder();
        for (int k = 1; k <= 12; k++) {
            prizes.append("prize ").append(k > 9 ? "b " : "a ").append(k > 9 ? k - 9 : k).append(" 1;");
        }
        for (int k = 1; k <= 24; k++) {
            prices.append("price ").append(k > 20 ? "b " : "a ").append(k > 20 ? k - 20 : k).append(" 9;");
        }
        many = many.replace("PRIZES", prizes).replace("PRICES", prices);
        for (int k = 0; k < 4; k++) {
            Check.due("most prizes and prices", Check.read(x, many), 2 + 6 + 12 + 24);
            Check.due("most holdings", Check.read(x, LOANS + HOLDERS + holdings()), 4 + 6 + 20);
            Check.due("none", x.text(0), 0);
        }
        Check.read(x, "loan a bonds 3 par 5 coupon 0 years 2 sink 7;prize a 1 5;");
        x.put(0, 5);
        x.year();
        Check.read(x, "loan a bonds 3 par 5 coupon 0 years 2 sink 7;");
        Check.due("no prizes of older TEXTS", x.toPay(0), 15);
        Check.due("FUND", Check.loan(x, 0, 8), 0);
        for (int k = 0; k < 3; k++) {
            Check.read(x, "loan a bonds 3 par 5 coupon 0 years 2 end;");
            Check.due("no sum of older TEXTS", Check.loan(x, 0, 5), 0);
            for (int n = 1; n <= 3; n++) {
                Check.due("YEAR in which it was RETIRED", x.bond(0, n, 2), 0);
                Check.due("its place", x.bond(0, n, 3), 0);
            }
            x.year();
            x.year();
        }
        Check.due("a FAULT with another LOAN", Check.read(x, "loan b bonds 60 par 1 coupon 1 years 20 even;holder h cash 1;oh"), -2 - (8 * 61 + 1));
        Check.due("LOANS stay", x.count(0), 1);
        Check.due("HOLDERS stay", x.count(1), 0);
        Check.due("BONDS stay", Check.loan(x, 0, 0), 3);
        Check.due("years stay", Check.loan(x, 0, 3), 2);
    }
}
