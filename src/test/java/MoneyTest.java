import java.util.NoSuchElementException;

/** Promises 26 to 30: back, what payers paid, cash and bonds. */
public final class MoneyTest {
    private static final Class<?> INDEX = IndexOutOfBoundsException.class;
    private static final Class<?> ARGUMENT = IllegalArgumentException.class;
    private static final Class<?> ELEMENT = NoSuchElementException.class;

    public static void main(String[] args) {
        back();
        backOfTwo();
        backWithoutCash();
        dues();
        greatDues();
        cash();
        bondNumbers();
        borrowing();
        oneBond();
        ranks();
        whatIsLeftBearsNoInterest();
        termsAndYears();
        Due.finish("MoneyTest");
    }

    private static SiltHarbour withBerth(String act) {
        SiltHarbour x = new SiltHarbour();
        x.payer();
        x.payer();
        x.berth(0, 900, 500, 50000);
        Due.act(x, 0, act);
        return x;
    }

    private static int boat(SiltHarbour x, int payer) {
        return x.ship(payer, 0, 1, 1, 1, 1, false, 0);
    }

    private static void back() {
        SiltHarbour x = withBerth("ship 999;back 10;back 33 if stay > 1;back 90 if stay > 2");
        boat(x, 0);
        Due.due("it waits", x.back(0), -1);
        x.hours(1);
        Due.due("it is ready", x.back(0), -1);
        x.hours(50);
        Due.due("33 hundredths of 999", x.back(0), 329);
        Due.due("once", x.back(0), -1);
        Due.due("had", x.led(0, 7), 329);
        Due.due("cash", x.count(10), 670);
        Due.due("in all", x.count(12), 329);
        Due.due("paid is not less by it", x.pays(0, 0), 999);
        Due.due("nor are dues", x.count(11), 999);
        Due.thrown("no ship", INDEX, () -> x.back(1));
        Due.thrown("no ship below", INDEX, () -> x.back(-1));
        SiltHarbour y = withBerth("ship 5");
        boat(y, 0);
        y.hours(2);
        Due.due("no line: none", y.back(0), 0);
        Due.due("had it all the same", y.back(0), -1);
    }

    private static void backOfTwo() {
        SiltHarbour x = withBerth("back 10 if coal;back 20 if stay > 4;ship 100");
        x.hours(10);
        x.ship(0, 0, 1, 1, 1, 1, false, 0);
        x.ship(0, 1, 2000, 1, 1, 1, false, 0);
        x.hours(10);
        Due.due("both left", x.count(6), 2);
        x.judge(1, 3);
        Due.due("coal, for 2 hours", x.back(0), 10);
        x.judge(0, 3);
        Due.due("grain, for 7", x.back(1), 20);
    }

    private static void backWithoutCash() {
        SiltHarbour x = withBerth("ship 1000;back 100;borrow 1000");
        x.bond(1000, 2000, 0, 1);
        boat(x, 0);
        Due.pass(x, 2400);
        Due.due("2000 less 1200", x.count(10), 800);
        Due.due("as far as there is cash", x.back(0), 800);
        Due.due("none left", x.count(10), 0);
        Due.due("had", x.led(0, 7), 800);
        Due.due("no more of it", x.back(0), -1);
        Due.due("in all", x.count(12), 800);
    }

    private static void dues() {
        SiltHarbour x = withBerth("ship 7;ton 1");
        boat(x, 1);
        boat(x, 0);
        boat(x, 1);
        x.hours(6);
        Due.due("payer 0", x.pays(0, 0), 8);
        Due.due("payer 1", x.pays(1, 0), 16);
        Due.due("all of 1", x.pays(1, 4), 16);
        Due.due("ships of 1", x.pays(1, 3), 2);
        Due.due("dues", x.count(11), 24);
        Due.due("cash", x.count(10), 24);
        Due.pass(x, 2394);
        boat(x, 1);
        x.hours(2);
        Due.due("this year", x.pays(1, 0), 8);
        Due.due("last year", x.pays(1, 1), 16);
        Due.due("in all", x.pays(1, 4), 24);
        Due.due("0 this year", x.pays(0, 0), 0);
    }

    private static void greatDues() {
        SiltHarbour x = withBerth("ton 999999;back 50;vote 1 if paid > 999998");
        x.ship(0, 0, 1500, 1, 1, 1, false, 0);
        x.ship(0, 0, 1500, 1, 1, 1, false, 0);
        x.ship(1, 0, 20000, 1, 1, 1, false, 0);
        x.hours(120);
        Due.due("all gone", x.count(6), 3);
        Due.due("the third's due", x.led(2, 6), 2000000000);
        Due.due("paid to 2000000000", x.pays(0, 0), 2000000000);
        Due.due("ever, too", x.pays(0, 4), 2000000000);
        Due.due("dues", x.count(11), 2000000000);
        Due.due("cash", x.count(10), 2000000000);
        Due.due("what would be more is lost", x.cash(1000000), 2000000000);
        Due.due("half of it", x.back(2), 1000000000);
        Due.due("half", x.back(0), 749999250);
        Due.due("half, as far as there is", x.back(1), 250000750);
        Due.due("back in all, to 2000000000", x.count(12), 2000000000);
        Due.due("votes", x.pays(0, 2), 1);
        Due.text(x, "ton 999999");
        Due.due("all bear less", x.another(0, true), 3);
    }

    private static void cash() {
        SiltHarbour x = new SiltHarbour();
        Due.thrown("-1", ARGUMENT, () -> x.cash(-1));
        Due.thrown("1000001", ARGUMENT, () -> x.cash(1000001));
        Due.due("0", x.cash(0), 0);
        Due.due("1000000", x.cash(1000000), 1000000);
        Due.due("5 more", x.cash(5), 1000005);
        Due.due("count", x.count(10), 1000005);
    }

    private static void bondNumbers() {
        SiltHarbour x = withBerth("borrow 999999");
        int[][] wrongOnes = {{0, 0, 0, 1}, {1000001, 0, 0, 1}, {1, -1, 0, 1}, {1, 2001, 0, 1}, {1, 0, -1, 1}, {1, 0, 10, 1},
            {1, 0, 0, 0}, {1, 0, 0, 31}};
        for (int[] w : wrongOnes) {
            Due.thrown("a number is none", ARGUMENT, () -> x.bond(w[0], w[1], w[2], w[3]));
        }
        for (int i = 0; i < 20; i++) {
            Due.due("bond", x.bond(1, 2000, 9, 30), i);
        }
        Due.thrown("a 21st", UnsupportedOperationException.class, () -> x.bond(1000000, 0, 0, 1));
        Due.thrown("a wrong 21st", ARGUMENT, () -> x.bond(0, 0, 0, 1));
        Due.due("bonds", x.count(20), 20);
        Due.due("cash", x.count(10), 20);
        Due.thrown("no bond", INDEX, () -> x.owes(20, 9));
        Due.thrown("no bond below", INDEX, () -> x.owes(-1, 0));
        Due.thrown("what 4", ELEMENT, () -> x.owes(0, 4));
        Due.thrown("what -1", ELEMENT, () -> x.owes(0, -1));
    }

    private static void borrowing() {
        SiltHarbour x = new SiltHarbour();
        Due.due("none without a line", x.bond(1, 0, 0, 1), -1);
        Due.act(x, 0, "borrow 9;borrow 100");
        Due.due("the last line", x.bond(60, 0, 0, 1), 0);
        Due.due("101 is above", x.bond(41, 0, 0, 1), -1);
        Due.due("100 is not", x.bond(40, 1000, 0, 2), 1);
        Due.due("cash", x.count(10), 100);
        Due.due("full", x.bond(1, 0, 0, 1), -1);
        Due.pass(x, 2400);
        Due.due("100 less 60 and 4", x.count(10), 36);
        Due.due("the first does not count any more", x.bond(60, 0, 0, 1), 2);
        Due.due("the second does", x.bond(1, 0, 0, 1), -1);
        Due.act(x, 100, "");
        Due.due("the act of today has no such line", x.bond(1, 0, 0, 1), -1);
        SiltHarbour y = new SiltHarbour();
        Due.act(y, 0, "borrow 100");
        y.bond(100, 100, 0, 1);
        Due.pass(y, 2400);
        Due.due("1 is owed", y.owes(0, 0), 1);
        Due.due("so it counts", y.bond(1, 0, 0, 1), -1);
        y.cash(1);
        Due.pass(y, 2400);
        Due.due("no more", y.owes(0, 0), 0);
        Due.due("then it does not", y.bond(100, 0, 0, 1), 1);
    }

    private static void oneBond() {
        SiltHarbour x = new SiltHarbour();
        Due.act(x, 0, "borrow 999999");
        x.hours(100);
        x.bond(999, 333, 5, 2);
        int[] fresh = {0, 999, 0, 1};
        for (int what = 0; what < 4; what++) {
            Due.due("new " + what, x.owes(0, what), fresh[what]);
        }
        Due.pass(x, 2299);
        Due.due("nothing ahead of the year's end", x.owes(0, 2), 0);
        x.hours(1);
        int[] second = {0, 999, 33, 1};
        for (int what = 0; what < 4; what++) {
            Due.due("a year later " + what, x.owes(0, what), second[what]);
        }
        Due.pass(x, 2400);
        int[] over = {66, 0, 999, 1};
        for (int what = 0; what < 4; what++) {
            Due.due("its term is over " + what, x.owes(0, what), over[what]);
        }
        Due.due("owed in all", x.count(21), 66);
        Due.due("no cash", x.count(10), 0);
        x.cash(100);
        Due.pass(x, 2400);
        Due.due("paid", x.owes(0, 2), 1065);
        Due.due("the rest of cash", x.count(10), 34);
    }

    private static void ranks() {
        SiltHarbour x = new SiltHarbour();
        Due.act(x, 0, "borrow 999999");
        x.bond(100, 0, 3, 1);
        x.bond(100, 0, 0, 1);
        x.bond(100, 0, 3, 1);
        x.bond(100, 0, 9, 30);
        x.bond(100, 2000, 4, 1);
        Due.due("cash", x.count(10), 500);
        Due.pass(x, 2400);
        int[] owed = {0, 0, 0, 0, 0};
        for (int b = 0; b < 5; b++) {
            Due.due("all were paid", x.owes(b, 0), owed[b]);
        }
        Due.due("80 are left", x.count(10), 80);
        x.bond(100, 500, 5, 1);
        x.bond(100, 2000, 1, 1);
        x.bond(200, 2000, 0, 1);
        x.bond(100, 2000, 1, 1);
        Due.due("580", x.count(10), 580);
        Due.pass(x, 2400);
        Due.due("rank 0", x.owes(7, 0), 0);
        Due.due("rank 1, the least number", x.owes(6, 0), 0);
        Due.due("rank 1, the other", x.owes(8, 0), 0);
        Due.due("rank 5 is last: 580 - 240 - 120 - 120", x.owes(5, 0), 5);
        Due.due("was paid", x.owes(5, 2), 100);
        Due.due("owed in all", x.count(21), 5);
    }

    private static void whatIsLeftBearsNoInterest() {
        SiltHarbour x = new SiltHarbour();
        Due.act(x, 0, "borrow 999999");
        x.bond(1000, 1000, 7, 2);
        x.bond(1000, 2000, 2, 1);
        Due.pass(x, 2400);
        Due.due("rank 2 has 1200", x.owes(1, 2), 1200);
        Due.due("rank 7 has 100", x.owes(0, 2), 100);
        Due.due("cash", x.count(10), 700);
        Due.pass(x, 2400);
        Due.due("1100 less 700", x.owes(0, 0), 400);
        Due.pass(x, 2400);
        Due.due("no interest", x.owes(0, 0), 400);
    }

    private static void termsAndYears() {
        SiltHarbour x = new SiltHarbour();
        Due.act(x, 0, "borrow 999999");
        Due.pass(x, 2399);
        x.bond(10, 0, 0, 1);
        x.hours(1);
        x.bond(10, 0, 0, 1);
        x.bond(10, 0, 0, 30);
        Due.due("sold in year 0", x.owes(0, 3), 0);
        Due.due("and over", x.owes(0, 1), 0);
        Due.due("paid in its last hour", x.owes(0, 2), 10);
        Due.due("sold in year 1", x.owes(1, 3), 1);
        Due.due("not over", x.owes(1, 1), 10);
        Due.due("30 years", x.owes(2, 3), 30);
        SiltHarbour y = new SiltHarbour();
        Due.act(y, 0, "borrow 999999");
        y.bond(999999, 2000, 0, 30);
        Due.pass(y, 2400);
        Due.due("interest is rounded down", y.owes(0, 2), 199999);
    }
}
