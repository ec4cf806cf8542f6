import java.util.NoSuchElementException;
import java.util.function.Supplier;

/** The boundary cases of promises 26 to 30, sentence by sentence: BACK, what PAYERS paid, CASH, BONDS, the end of a YEAR. */
public final class MoneyEdgesTest {
    private static final Class<?> INDEX = IndexOutOfBoundsException.class;
    private static final Class<?> ARGUMENT = IllegalArgumentException.class;
    private static final Class<?> FULL = UnsupportedOperationException.class;
    private static final Class<?> ELEMENT = NoSuchElementException.class;
    private static final int LEAST = Integer.MIN_VALUE;
    private static final int MOST = Integer.MAX_VALUE;
    private static final int BILLIONS = 2000000000;

    public static void main(String[] args) {
        backOnceOfAShipThatIsGone();
        backInHundredths();
        backAsFarAsThereIsCash();
        backInAllToItsMost();
        backRefuses();
        paysAnswers();
        paysToTheirMost();
        lastYearsToo();
        paysRefuses();
        cashTakes();
        cashToItsMost();
        bondTakes();
        bondRefuses();
        the20thBond();
        notAboveTheBorrowLine();
        bondsThatCount();
        soldForItsFace();
        interest();
        termIsOver();
        paidInRank();
        paidBehindTheLastDay();
        leftOfBefore();
        owesRefuses();
        Due.finish("MoneyEdgesTest");
    }

    private static SiltHarbour withBerth(String act) {
        SiltHarbour x = new SiltHarbour();
        x.payer();
        x.payer();
        x.berth(0, 900, 500, 50000);
        Due.act(x, 0, act);
        return x;
    }

    private static int boat(SiltHarbour x, int payer) {
        return x.ship(payer, 0, 1, 1, 1, 1, false, 0);
    }

    /** "NONE, and nothing happens, if it is not GONE, or had it." */
    private static void backOnceOfAShipThatIsGone() {
        Supplier<SiltHarbour> ahead = () -> {
            SiltHarbour x = new SiltHarbour();
            x.payer();
            x.berth(13, 900, 4, 500);
            Due.act(x, 0, "ship 9;back 100");
            x.cash(50);
            x.ship(0, 0, 5, 1, 1, 1, false, 0);
            return x;
        };
        for (int h = 0; h <= 4; h++) {
            int hours = h;
            Look.refused("STATE " + Math.min(3, h) + " in HOUR " + h, -1, () -> {
                SiltHarbour x = ahead.get();
                x.hours(hours);
                return x;
            }, x -> x.back(0));
        }
        SiltHarbour x = ahead.get();
        x.hours(5);
        Due.due("GONE", x.led(0, 0), 4);
        Due.due("BACK", x.back(0), 9);
        Due.due("once", x.back(0), -1);
        Look.refused("had it", -1, () -> {
            SiltHarbour y = ahead.get();
            y.hours(5);
            y.back(0);
            return y;
        }, y -> y.back(0));
        x.hours(120);
        Due.due("for ever", x.back(0), -1);
    }

    /** "the greatest of all back that hold, in hundredths of its DUE, rounded down". */
    private static void backInHundredths() {
        int[][] cases = {{999, 0, 0}, {999, 1, 9}, {99, 1, 0}, {100, 1, 1}, {101, 1, 1}, {199, 1, 1}, {999, 50, 499}, {999, 99, 989}, {999, 100, 999},
            {0, 100, 0}, {1, 100, 1}, {1, 99, 0}};
        for (int[] c : cases) {
            SiltHarbour x = withBerth("ship " + c[0] + ";back " + c[1]);
            boat(x, 0);
            x.hours(2);
            Due.due(c[1] + " hundredths of " + c[0], x.back(0), c[2]);
            Due.due("it had", x.led(0, 7), c[2]);
            Due.due("CASH", x.count(10), c[0] - c[2]);
            Due.due("in all", x.count(12), c[2]);
            Due.due("once", x.back(0), -1);
        }
        SiltHarbour y = withBerth("ship 100;back 10;back 30 if stay < 3;back 20;back 90 if stay > 2");
        boat(y, 0);
        y.hours(2);
        y.hours(50);
        Due.due("the greatest, by the stay that it had", y.back(0), 30);
        SiltHarbour z = withBerth("ship 100;back 10");
        boat(z, 0);
        Due.act(z, 0, "ship 700;back 70");
        z.hours(2);
        Due.due("by the ACT of its DAY", z.back(0), 10);
        SiltHarbour w = withBerth("ship 100");
        boat(w, 0);
        w.hours(2);
        Due.due("no such LINE", w.back(0), 0);
        Due.due("once all the same", w.back(0), -1);
    }

    /** "how much (as far as there is CASH)". */
    private static void backAsFarAsThereIsCash() {
        for (int rate : new int[] {0, 198, 199, 200, 202, 1000, 1998, 2000}) {
            SiltHarbour x = withBerth("ship 1000;back 90;borrow 999999");
            boat(x, 0);
            x.bond(5000, rate, 0, 1);
            Due.pass(x, 2400);
            int cash = 1000 - 5000 * rate / 10000;
            Due.due("CASH by rate " + rate, x.count(10), cash);
            Due.due("BACK with CASH " + cash, x.back(0), Math.min(900, cash));
            Due.due("CASH then", x.count(10), cash - Math.min(900, cash));
            Due.due("it had", x.led(0, 7), Math.min(900, cash));
            x.cash(5000);
            Due.due("no more of it", x.back(0), -1);
        }
    }

    private static void backInAllToItsMost() {
        SiltHarbour x = withBerth("ton 100000;back 100");
        x.ship(0, 0, 20000, 1, 1, 1, false, 0);
        x.ship(0, 0, 20000, 1, 1, 1, false, 0);
        Due.pass(x, 60);
        Due.due("first", x.count(6), 1);
        Due.due("all BACK", x.back(0), BILLIONS);
        Due.due("in all", x.count(12), BILLIONS);
        Due.due("no CASH", x.count(10), 0);
        Due.pass(x, 60);
        Due.due("second", x.count(6), 2);
        Due.due("CASH", x.count(10), BILLIONS);
        Due.due("all BACK", x.back(1), BILLIONS);
        Due.due("in all, to 2000000000", x.count(12), BILLIONS);
        Due.due("dues in all, to 2000000000", x.count(11), BILLIONS);
    }

    private static void backRefuses() {
        for (int ship : new int[] {-1, 9, LEAST, MOST}) {
            Look.refused("back of " + ship, INDEX, Harbours.BUSY, x -> x.back(ship));
        }
        Look.refused("back of none", INDEX, Harbours.NEW, x -> x.back(0));
    }

    private static void pays(SiltHarbour x, int payer, int... want) {
        for (int what = 0; what < 5; what++) {
            Due.due("in HOUR " + x.count(0) + " pays(" + payer + ", " + what + ")", x.pays(payer, what), want[what]);
        }
    }

    /** 0 paid, 1 last, 2 VOTES by the ACT of TODAY, 3 its SHIPS, 4 all dues. */
    private static void paysAnswers() {
        SiltHarbour x = withBerth("ship 7;vote 1 if paid > 6;vote 2 if last > 6;vote 4 if paid > 7;vote 8");
        pays(x, 0, 0, 0, 8, 0, 0);
        boat(x, 0);
        pays(x, 0, 0, 0, 8, 1, 0);
        x.hours(2);
        pays(x, 0, 7, 0, 9, 1, 7);
        pays(x, 1, 0, 0, 8, 0, 0);
        Due.pass(x, 2397);
        pays(x, 0, 7, 0, 9, 1, 7);
        x.hours(1);
        pays(x, 0, 0, 7, 10, 1, 7);
        boat(x, 0);
        boat(x, 1);
        x.hours(3);
        pays(x, 0, 7, 7, 11, 2, 14);
        pays(x, 1, 7, 0, 9, 1, 7);
        Due.pass(x, 2400);
        pays(x, 0, 0, 7, 10, 2, 14);
        Due.pass(x, 2400);
        pays(x, 0, 0, 0, 8, 2, 14);
        Due.due("dues in all", x.count(11), 21);
    }

    /** "each to 2000000000", "all dues that it paid (to 2000000000)", "dues in all (to 2000000000)". */
    private static void paysToTheirMost() {
        SiltHarbour x = withBerth("ton 100000 if coal;ship 99999 if coal;ship 1 if grain");
        x.ship(0, 0, 19999, 1, 1, 1, false, 0);
        x.ship(0, 1, 1, 1, 1, 1, false, 0);
        x.ship(0, 1, 1, 1, 1, 1, false, 0);
        x.ship(1, 1, 1, 1, 1, 1, false, 0);
        int[] paid = {1999999999, BILLIONS, BILLIONS, BILLIONS};
        x.hours(40);
        for (int i = 0; i < 4; i++) {
            x.hours(1);
            Due.due("GONE", x.count(6), i + 1);
            Due.due("paid", x.pays(0, 0), paid[i]);
            Due.due("all dues that it paid", x.pays(0, 4), paid[i]);
            Due.due("dues in all", x.count(11), paid[i]);
            Due.due("CASH", x.count(10), paid[i]);
        }
        Due.due("the other's", x.pays(1, 0), 1);
    }

    private static void lastYearsToo() {
        SiltHarbour x = withBerth("ton 100000;vote 1 if last > 999999");
        x.ship(0, 0, 20000, 1, 1, 1, false, 0);
        x.ship(0, 0, 20000, 1, 1, 1, false, 0);
        Due.pass(x, 2400);
        Due.due("paid", x.pays(0, 0), 0);
        Due.due("last", x.pays(0, 1), BILLIONS);
        Due.due("VOTES", x.pays(0, 2), 1);
        x.ship(0, 0, 20000, 1, 1, 1, false, 0);
        Due.pass(x, 120);
        Due.due("paid in this YEAR", x.pays(0, 0), BILLIONS);
        Due.due("last still", x.pays(0, 1), BILLIONS);
        Due.due("all", x.pays(0, 4), BILLIONS);
    }

    private static void paysRefuses() {
        SiltHarbour x = Harbours.BUSY.get();
        for (int payer : new int[] {-1, 3, LEAST, MOST}) {
            Look.refused("pays of " + payer, INDEX, Harbours.BUSY, y -> y.pays(payer, 0));
            Due.thrown("no PAYER is told first", INDEX, () -> x.pays(payer, 5));
        }
        for (int what : new int[] {-1, 5, LEAST, MOST}) {
            Look.refused("pays what " + what, ELEMENT, Harbours.BUSY, y -> y.pays(0, what));
            Due.thrown("what " + what + " of the last", ELEMENT, () -> x.pays(2, what));
        }
    }

    /** "CASH comes: how much there is. IllegalArgumentException: not 0 to 1000000." */
    private static void cashTakes() {
        SiltHarbour x = new SiltHarbour();
        Due.due("0", x.cash(0), 0);
        Due.due("1", x.cash(1), 1);
        Due.due("1000000", x.cash(1000000), 1000001);
        Due.due("999999", x.cash(999999), 2000000);
        Due.due("0 again", x.cash(0), 2000000);
        Due.due("count", x.count(10), 2000000);
        for (int n : new int[] {-1, 1000001, LEAST, MOST}) {
            Look.refused("cash " + n, ARGUMENT, Harbours.NEW, y -> y.cash(n));
            Look.refused("cash later " + n, ARGUMENT, Harbours.BUSY, y -> y.cash(n));
        }
    }

    /** "CASH of the board (0 at first; to 2000000000, what would be more is lost)". */
    private static void cashToItsMost() {
        SiltHarbour x = withBerth("ton 100000 if coal;ship 99999 if coal;borrow 999999");
        x.ship(0, 0, 19999, 1, 1, 1, false, 0);
        x.hours(41);
        x.keep();
        Due.due("1 less", x.cash(0), 1999999999);
        Due.due("just so much", x.cash(1), BILLIONS);
        Due.due("more is lost", x.cash(1), BILLIONS);
        Due.due("so are 1000000", x.cash(1000000), BILLIONS);
        x.again();
        Due.due("1000000 to 1 less", x.cash(1000000), BILLIONS);
        x.again();
        Due.due("a BOND", x.bond(5, 0, 0, 1), 0);
        Due.due("of whose FACE 4 are lost", x.count(10), BILLIONS);
        Due.due("its FACE is 5 all the same", x.owes(0, 1), 5);
        Due.pass(x, 2400 - 41);
        Due.due("5 are paid", x.count(10), BILLIONS - 5);
        SiltHarbour y = withBerth("ton 100000");
        y.cash(7);
        y.ship(0, 0, 20000, 1, 1, 1, false, 0);
        y.hours(42);
        Due.due("a DUE of which 7 are lost", y.count(10), BILLIONS);
        Due.due("all of it was paid", y.pays(0, 0), BILLIONS);
    }

    /** FACE 1 to 1000000, RATE 0 to 2000, RANK 0 to 9, TERM 1 to 30. */
    private static void bondTakes() {
        SiltHarbour x = new SiltHarbour();
        Due.act(x, 0, "borrow 999999");
        int[][] taken = {{1, 0, 0, 1}, {1, 2000, 9, 30}, {1, 0, 9, 1}, {1, 0, 0, 30}, {999995, 2000, 0, 1}};
        for (int i = 0; i < taken.length; i++) {
            int[] t = taken[i];
            Due.due("bond " + i, x.bond(t[0], t[1], t[2], t[3]), i);
            int[] want = {0, t[0], 0, t[3] - 1};
            for (int what = 0; what < 4; what++) {
                Due.due("a new one's " + what, x.owes(i, what), want[what]);
            }
            Due.due("BONDS", x.count(20), i + 1);
        }
        Due.due("CASH", x.count(10), 999999);
        SiltHarbour y = new SiltHarbour();
        Due.act(y, 0, "borrow 999999");
        Due.due("a FACE of 1000000 is no wrong number, but never below a LINE", y.bond(1000000, 0, 0, 1), -1);
        Due.due("999999 is not above it", y.bond(999999, 0, 0, 1), 0);
    }

    private static void bondRefuses() {
        int[][] none = {{0, 0, 0, 1}, {-1, 0, 0, 1}, {1000001, 0, 0, 1}, {1, -1, 0, 1}, {1, 2001, 0, 1}, {1, 0, -1, 1}, {1, 0, 10, 1},
            {1, 0, 0, 0}, {1, 0, 0, 31}, {LEAST, 0, 0, 1}, {MOST, 0, 0, 1}, {1, LEAST, 0, 1}, {1, MOST, 0, 1}, {1, 0, LEAST, 1}, {1, 0, MOST, 1},
            {1, 0, 0, LEAST}, {1, 0, 0, MOST}};
        for (Supplier<SiltHarbour> made : java.util.List.of(Harbours.NEW, Harbours.BUSY, Harbours.FULL_PURSE)) {
            for (int[] n : none) {
                Look.refused("bond " + n[0] + " " + n[1] + " " + n[2] + " " + n[3], ARGUMENT, made, x -> x.bond(n[0], n[1], n[2], n[3]));
            }
        }
        Look.refused("none may be sold without a LINE", -1, Harbours.NEW, x -> x.bond(1, 0, 0, 1));
        Look.refused("it may not be borrowed", -1, Harbours.BUSY, x -> x.bond(2301, 0, 0, 1));
        Look.refused("nor the greatest", -1, Harbours.BUSY, x -> x.bond(1000000, 2000, 9, 30));
        Due.due("2300 more may be", Harbours.BUSY.get().bond(2300, 0, 0, 1), 3);
    }

    /** "BONDS (at most 20)": that is told ahead of whether it may be borrowed. */
    private static void the20thBond() {
        SiltHarbour x = new SiltHarbour();
        Due.act(x, 0, "borrow 999999");
        for (int i = 0; i < 20; i++) {
            Due.due("bond " + i, x.bond(1, 0, 0, 1), i);
        }
        Due.thrown("a 21st", FULL, () -> x.bond(1, 0, 0, 1));
        Due.pass(x, 2400);
        Due.thrown("though all are paid", FULL, () -> x.bond(1, 0, 0, 1));
        Look.refused("a 21st bond", FULL, Harbours.FULL_PURSE, y -> y.bond(1, 0, 0, 1));
        Look.refused("one that may not be borrowed, either", FULL, Harbours.FULL_PURSE, y -> y.bond(1000000, 0, 0, 1));
        Due.due("20", x.count(20), 20);
    }

    /** "together are not above the last borrow LINE of the ACT of TODAY (none may be sold without)". */
    private static void notAboveTheBorrowLine() {
        Object[][] lines = {{"borrow 100", 100}, {"borrow 999999;borrow 100", 100}, {"borrow 5;ton 1;borrow 100;pass 7", 100}, {"borrow 0", 0}, {"ton 1", 0},
            {"borrow 1", 1}};
        for (Object[] line : lines) {
            SiltHarbour x = new SiltHarbour();
            Due.act(x, 0, (String) line[0]);
            int most = (Integer) line[1];
            Due.due("one above " + line[0], x.bond(most + 1, 0, 0, 1), -1);
            if (most > 0) {
                Due.due("not above " + line[0], x.bond(most, 0, 0, 1), 0);
            }
            Due.due("1 more by " + line[0], x.bond(1, 0, 0, 1), -1);
            Due.due("CASH", x.count(10), most);
        }
        SiltHarbour y = new SiltHarbour();
        Due.act(y, 0, "borrow 10");
        Due.act(y, 1, "borrow 20");
        Due.act(y, 2, "ton 1");
        y.hours(23);
        Due.due("TODAY's is 10", y.bond(11, 0, 0, 9), -1);
        Due.due("10", y.bond(10, 0, 0, 9), 0);
        y.hours(1);
        Due.due("TODAY's is 20", y.bond(11, 0, 0, 9), -1);
        Due.due("10 more", y.bond(10, 0, 0, 9), 1);
        y.hours(24);
        Due.due("TODAY's has none", y.bond(1, 0, 0, 9), -1);
    }

    /** "those of all BONDS whose TERM is not over, or that owe something". */
    private static void bondsThatCount() {
        SiltHarbour x = new SiltHarbour();
        Due.act(x, 0, "borrow 100");
        x.bond(60, 0, 0, 1);
        x.bond(40, 0, 0, 2);
        Due.pass(x, 2399);
        Due.due("the TERM is not over yet", x.bond(1, 0, 0, 1), -1);
        x.hours(1);
        Due.due("it is over, and nothing is owed", x.bond(61, 0, 0, 1), -1);
        Due.due("so 60 may be sold", x.bond(60, 0, 0, 1), 2);
        SiltHarbour y = new SiltHarbour();
        Due.act(y, 0, "borrow 100");
        y.bond(100, 100, 0, 1);
        Due.pass(y, 2400);
        Due.due("1 is owed", y.owes(0, 0), 1);
        Due.due("its whole FACE counts", y.bond(1, 0, 0, 1), -1);
        y.cash(1);
        Due.due("until it is paid", y.bond(1, 0, 0, 1), -1);
        Due.pass(y, 2400);
        Due.due("none is owed", y.owes(0, 0), 0);
        Due.due("it counts no more", y.bond(100, 0, 0, 1), 1);
        SiltHarbour z = new SiltHarbour();
        Due.act(z, 0, "borrow 100");
        z.bond(50, 2000, 0, 2);
        Due.due("while its TERM goes on", z.bond(51, 0, 0, 1), -1);
        Due.pass(z, 2400);
        Due.due("nothing is owed", z.owes(0, 0), 0);
        Due.due("in its last YEAR, too", z.bond(51, 0, 0, 1), -1);
        Due.due("once, not twice", z.bond(50, 0, 0, 1), 1);
    }

    private static void soldForItsFace() {
        SiltHarbour x = new SiltHarbour();
        Due.act(x, 0, "borrow 999999");
        x.cash(5);
        x.bond(1000, 2000, 0, 1);
        Due.due("CASH", x.count(10), 1005);
        Due.due("nothing is owed yet", x.count(21), 0);
    }

    /** "owes FACE times RATE by 10000, rounded down, more". */
    private static void interest() {
        int[][] cases = {{999999, 2000, 199999}, {9999, 1, 0}, {10000, 1, 1}, {10001, 1, 1}, {19999, 1, 1}, {4, 2000, 0}, {5, 2000, 1}, {9, 2000, 1},
            {10, 2000, 2}, {999999, 0, 0}, {333, 333, 11}, {1, 2000, 0}};
        for (int[] c : cases) {
            SiltHarbour x = new SiltHarbour();
            Due.act(x, 0, "borrow 999999");
            x.bond(c[0], c[1], 0, 2);
            Due.pass(x, 2399);
            Due.due("ahead of the end of the YEAR", x.owes(0, 2), 0);
            x.hours(1);
            Due.due(c[0] + " by " + c[1], x.owes(0, 2), c[2]);
            Due.due("CASH", x.count(10), c[0] - c[2]);
            Due.due("its FACE is not yet owed", x.owes(0, 1), c[0]);
        }
    }

    /** "(its last YEAR is that in which it was sold and TERM less 1)". */
    private static void termIsOver() {
        for (int sold = 0; sold <= 2; sold++) {
            for (int term = 1; term <= 3; term++) {
                SiltHarbour x = new SiltHarbour();
                Due.act(x, 0, "borrow 999999");
                // all CASH goes to its interest and FACE, so that the interest is owed in the end; one is sold in the last HOUR of a YEAR
                Due.pass(x, 2400 * sold + (sold == 1 ? 2399 : 0));
                x.bond(1000, 100, 0, term);
                Due.due("its last YEAR", x.owes(0, 3), sold + term - 1);
                for (int year = sold; year < sold + term + 1; year++) {
                    boolean over = year >= sold + term;
                    Due.due("sold in " + sold + " for " + term + ", FACE in " + year, x.owes(0, 1), over ? 0 : 1000);
                    Due.due("paid by " + year, x.owes(0, 2), over ? 1000 : 10 * (year - sold));
                    Due.due("owes in " + year, x.owes(0, 0), over ? 10 * term : 0);
                    Due.pass(x, 2400 * (year + 1) - x.count(0));
                }
            }
        }
        SiltHarbour y = new SiltHarbour();
        Due.act(y, 0, "borrow 999999");
        y.bond(10, 0, 0, 30);
        Due.due("30 YEARS", y.owes(0, 3), 29);
        Due.pass(y, 30000);
        Due.due("not over at last", y.owes(0, 1), 10);
        Due.due("nothing is owed", y.owes(0, 0), 0);
        y.bond(10, 0, 0, 30);
        Due.due("sold in YEAR 12", y.owes(1, 3), 41);
    }

    /** "BONDS by RANK, of one RANK by numbers .. as much as there is CASH, in that order". */
    private static void paidInRank() {
        int[] ranks = {9, 0, 5, 0, 9, 1};
        int[] order = {1, 3, 5, 2, 0, 4};
        for (int rate = 0; rate <= 2000; rate += 100) {
            SiltHarbour x = new SiltHarbour();
            Due.act(x, 0, "borrow 999999");
            for (int rank : ranks) {
                x.bond(100, rate, rank, 1);
            }
            Due.pass(x, 2400);
            int cash = 600;
            int owed = 0;
            for (int b : order) {
                int owes = 100 + rate / 100;
                int paid = Math.min(cash, owes);
                Due.due("paid to " + b + " by " + rate, x.owes(b, 2), paid);
                Due.due("owed to " + b + " by " + rate, x.owes(b, 0), owes - paid);
                cash -= paid;
                owed += owes - paid;
            }
            Due.due("owed in all by " + rate, x.count(21), owed);
            Due.due("CASH", x.count(10), 0);
        }
    }

    /** "At the end of each YEAR (behind that of its last DAY)", behind what is paid in its last HOUR. */
    private static void paidBehindTheLastDay() {
        SiltHarbour x = withBerth("ship 50;borrow 999999");
        x.bond(100, 2000, 0, 1);
        Due.pass(x, 2398);
        boat(x, 0);
        x.hours(2);
        Due.due("left in HOUR 2400", x.led(0, 5), 2400);
        Due.due("its DUE paid for it", x.owes(0, 0), 0);
        Due.due("CASH", x.count(10), 30);
        Due.due("paid became last", x.pays(0, 1), 50);
        Due.due("paid is 0", x.pays(0, 0), 0);
    }

    /** "(with what was left of before, on which there is no interest)". */
    private static void leftOfBefore() {
        SiltHarbour x = new SiltHarbour();
        Due.act(x, 0, "borrow 999999");
        x.bond(1000, 2000, 5, 1);
        x.bond(1000, 1000, 4, 3);
        Due.pass(x, 2400);
        Due.due("RANK 4 had 100", x.owes(1, 2), 100);
        Due.due("RANK 5 had 1200", x.owes(0, 2), 1200);
        Due.due("CASH", x.count(10), 700);
        Due.pass(x, 4800);
        Due.due("1000 and 100 twice, of 700", x.owes(1, 0), 500);
        Due.due("no CASH", x.count(10), 0);
        Due.pass(x, 4800);
        Due.due("no interest on what is left", x.owes(1, 0), 500);
        x.cash(499);
        Due.due("not paid ahead of the end of a YEAR", x.owes(1, 0), 500);
        Due.pass(x, 2400);
        Due.due("1 is left", x.owes(1, 0), 1);
        x.cash(5);
        Due.pass(x, 2400);
        Due.due("none is left", x.owes(1, 0), 0);
        Due.due("CASH", x.count(10), 4);
        Due.due("paid in all", x.owes(1, 2), 1300);
    }

    private static void owesRefuses() {
        SiltHarbour x = Harbours.BUSY.get();
        for (int bond : new int[] {-1, 3, LEAST, MOST}) {
            Look.refused("owes of " + bond, INDEX, Harbours.BUSY, y -> y.owes(bond, 0));
            Due.thrown("no BOND is told first", INDEX, () -> x.owes(bond, 4));
        }
        for (int what : new int[] {-1, 4, LEAST, MOST}) {
            Look.refused("owes what " + what, ELEMENT, Harbours.BUSY, y -> y.owes(0, what));
            Due.thrown("what " + what + " of the last", ELEMENT, () -> x.owes(2, what));
        }
        Look.refused("owes of a 21st", INDEX, Harbours.FULL_PURSE, y -> y.owes(20, 0));
        Due.due("of the 20th", Harbours.FULL_PURSE.get().owes(19, 1), 20);
    }
}
