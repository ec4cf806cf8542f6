import java.util.NoSuchElementException;
import java.util.function.Supplier;

/** The boundary cases of promises 12 to 19, sentence by sentence: calls on BERTHS, PAYERS and SHIPS. */
public final class PortEdgesTest {
    private static final Class<?> INDEX = IndexOutOfBoundsException.class;
    private static final Class<?> ARGUMENT = IllegalArgumentException.class;
    private static final Class<?> FULL = UnsupportedOperationException.class;
    private static final Class<?> ELEMENT = NoSuchElementException.class;
    private static final int LEAST = Integer.MIN_VALUE;
    private static final int MOST = Integer.MAX_VALUE;

    public static void main(String[] args) {
        berthTakes();
        berthRefuses();
        handsTakes();
        handsRefuses();
        handsOfBusyPilots();
        payers();
        shipTakes();
        shipRefuses();
        the80thShip();
        hoursTakes();
        hoursRefuses();
        hourAtLast();
        ledOfEachState();
        ledRefuses();
        quayAnswers();
        quayRefuses();
        windowFirstHour();
        windowRefuses();
        Due.finish("PortEdgesTest");
    }

    private static SiltHarbour withBerth(int cell, int length, int crane, int limit) {
        SiltHarbour x = new SiltHarbour();
        x.berth(cell, length, crane, limit);
        x.payer();
        return x;
    }

    private static int boat(SiltHarbour x, int tons) {
        return x.ship(0, 0, tons, 50, 5, 5, false, 0);
    }

    /** "at a CELL, LONG (1 to 900), a CRANE (1 to 500 tons an hour), a LIMIT of load (1 to 50000)"; at most 10. */
    private static void berthTakes() {
        SiltHarbour x = new SiltHarbour();
        int[][] taken = {{0, 1, 1, 1}, {23, 900, 500, 50000}, {0, 900, 1, 1}, {0, 1, 500, 1}, {0, 1, 1, 50000}, {5, 2, 2, 2},
            {6, 899, 499, 49999}, {11, 50, 50, 50}, {12, 50, 50, 50}, {17, 50, 50, 50}};
        for (int i = 0; i < 10; i++) {
            int[] t = taken[i];
            Due.due("berth " + i, x.berth(t[0], t[1], t[2], t[3]), i);
            Due.due("its CELL", x.quay(i, 0), t[0]);
            Due.due("berths", x.count(3), i + 1);
            for (int what = 1; what < 6; what++) {
                Due.due("a new berth's " + what, x.quay(i, what), what == 3 ? -1 : 0);
            }
        }
        SiltHarbour y = withBerth(0, 1, 1, 1);
        y.ship(0, 0, 2, 1, 1, 1, false, 0);
        y.hands(1, 0);
        y.hours(1);
        Due.due("LONG 1 takes a ship LONG 1; CRANE 1 unloads 1", y.led(0, 2), 1);
        Due.due("LIMIT 1 is not above 1", y.quay(0, 4), 0);
        y.hours(1);
        Due.due("but 2 is", y.quay(0, 4), 1);
        SiltHarbour z = withBerth(0, 900, 500, 50000);
        z.ship(0, 0, 20000, 900, 1, 1, false, 0);
        z.hours(1);
        Due.due("LONG 900 takes a ship LONG 900; CRANE 500 unloads 500", z.led(0, 2), 19500);
    }

    private static void berthRefuses() {
        int[][] noCell = {{-1, 5, 5, 5}, {24, 5, 5, 5}, {LEAST, 5, 5, 5}, {MOST, 5, 5, 5}, {-1, 0, 0, 0}, {24, 901, 5, 5}};
        int[][] none = {{0, 0, 5, 5}, {0, 901, 5, 5}, {0, LEAST, 5, 5}, {0, MOST, 5, 5}, {0, 5, 0, 5}, {0, 5, 501, 5}, {0, 5, LEAST, 5},
            {0, 5, MOST, 5}, {0, 5, 5, 0}, {0, 5, 5, 50001}, {0, 5, 5, LEAST}, {0, 5, 5, MOST}, {23, -1, -1, -1}};
        for (Supplier<SiltHarbour> made : java.util.List.of(Harbours.NEW, Harbours.BUSY, Harbours.FULL_PORT)) {
            for (int[] n : noCell) {
                Look.refused("berth at " + n[0], INDEX, made, x -> x.berth(n[0], n[1], n[2], n[3]));
            }
            for (int[] n : none) {
                Look.refused("berth " + n[1] + " " + n[2] + " " + n[3], ARGUMENT, made, x -> x.berth(n[0], n[1], n[2], n[3]));
            }
        }
        Look.refused("an 11th berth", FULL, Harbours.FULL_PORT, x -> x.berth(0, 5, 5, 5));
    }

    /** "PILOTS (0 to 20; 2 at first). WAGONS (0 to 100; 1 at first)". */
    private static void handsTakes() {
        SiltHarbour x = new SiltHarbour();
        Due.due("2 PILOTS at first", x.count(7), 2);
        for (int pilots : new int[] {0, 1, 19, 20}) {
            x.hands(pilots, 0);
            Due.due("PILOTS", x.count(7), pilots);
        }
        SiltHarbour y = withBerth(0, 100, 50, 1000);
        boat(y, 50);
        y.hours(1);
        Due.due("1 WAGON at first", y.count(9), 10);
        int[][] wagons = {{0, 1500}, {1, 1490}, {99, 510}, {100, 500}};
        for (int[] w : wagons) {
            SiltHarbour z = withBerth(0, 100, 500, 50000);
            z.berth(0, 100, 500, 50000);
            z.berth(0, 100, 500, 50000);
            z.hands(3, w[0]);
            for (int i = 0; i < 3; i++) {
                boat(z, 500);
            }
            z.hours(1);
            Due.due(w[0] + " WAGONS leave", z.count(8), w[1]);
        }
    }

    private static void handsRefuses() {
        int[][] none = {{-1, 5}, {21, 5}, {LEAST, 5}, {MOST, 5}, {5, -1}, {5, 101}, {5, LEAST}, {5, MOST}, {-1, 101}};
        for (int[] n : none) {
            Look.refusedDeed("hands " + n[0] + " " + n[1], ARGUMENT, Harbours.NEW, x -> x.hands(n[0], n[1]));
            Look.refusedDeed("hands later " + n[0] + " " + n[1], ARGUMENT, Harbours.BUSY, x -> x.hands(n[0], n[1]));
        }
    }

    /** "(PILOTS that are busy stay so; those who are more than there are are none any more as they are free.)" */
    private static void handsOfBusyPilots() {
        SiltHarbour x = new SiltHarbour();
        x.payer();
        x.berth(23, 100, 500, 1000);
        x.berth(12, 100, 500, 1000);
        x.berth(0, 100, 500, 1000);
        x.hands(3, 0);
        boat(x, 400);
        boat(x, 400);
        x.hours(1);
        Due.due("busy for 4 HOURS and for 3", x.count(7), 1);
        x.hands(0, 0);
        Due.due("none is free", x.count(7), 0);
        x.hands(2, 0);
        Due.due("two are busy", x.count(7), 0);
        x.hours(2);
        Due.due("in the third HOUR still", x.count(7), 0);
        x.hands(1, 0);
        x.hours(1);
        Due.due("the one that is free is one too many", x.count(7), 0);
        Due.due("both ships are in", x.led(0, 0), 3);
        x.hours(1);
        Due.due("the first is led out", x.led(0, 0), 4);
        Due.due("and busy for 4 HOURS", x.count(7), 0);
        Due.due("the second is not", x.led(1, 0), 3);
        x.hands(20, 0);
        Due.due("19 are free", x.count(7), 19);
    }

    /** "A PAYER: its number. UnsupportedOperationException: there are 30." */
    private static void payers() {
        SiltHarbour x = new SiltHarbour();
        for (int i = 0; i < 30; i++) {
            int n = i;
            Due.thrown("no PAYER " + i + " yet", INDEX, () -> x.pays(n, 0));
            Due.due("payer " + i, x.payer(), i);
            for (int what = 0; what < 5; what++) {
                Due.due("a new one's " + what, x.pays(i, what), 0);
            }
        }
        Due.thrown("a 31st", FULL, () -> x.payer());
        Due.thrown("again", FULL, () -> x.payer());
        Look.refused("a 31st payer", FULL, Harbours.FULL_PORT, y -> y.payer());
    }

    /** GOOD 0 to 5, TONS 1 to 20000, LONG 1 to 900, DRAUGHT 1 to 80, MOST 0 to 1000000. */
    private static void shipTakes() {
        SiltHarbour x = new SiltHarbour();
        x.payer();
        x.payer();
        x.hours(5);
        int[][] taken = {{0, 1, 1, 1, 1, 0}, {5, 20000, 900, 80, 80, 1000000}, {5, 1, 1, 1, 1, 0}, {0, 20000, 1, 1, 1, 0}, {0, 1, 900, 1, 1, 0},
            {0, 1, 1, 80, 1, 0}, {0, 1, 1, 1, 80, 0}, {0, 1, 1, 1, 1, 1000000}};
        for (int i = 0; i < taken.length; i++) {
            int[] t = taken[i];
            Due.due("ship " + i, x.ship(i % 2, t[0], t[1], t[2], t[3], t[4], i % 2 == 0, t[5]), i);
            int[] want = {0, -1, t[1], 5, -1, -1, 0, 0, 0, i};
            for (int what = 0; what < 10; what++) {
                Due.due("a new ship's " + what, x.led(i, what), want[what]);
            }
        }
        Due.due("ships of PAYER 0", x.pays(0, 3), 4);
        Due.due("ships of PAYER 1", x.pays(1, 3), 4);
        SiltHarbour y = withBerth(0, 900, 500, 50000);
        y.river(0, 0, 200, 85);
        y.ship(0, 0, 1, 1, 80, 80, false, 0);
        y.hours(2);
        Due.due("80 and 5 in 85, in and out", y.led(0, 0), 4);
    }

    private static void shipRefuses() {
        int[][] none = {
            {-1, 1, 1, 1, 1, 0}, {6, 1, 1, 1, 1, 0}, {0, 0, 1, 1, 1, 0}, {0, 20001, 1, 1, 1, 0},
            {0, 1, 0, 1, 1, 0}, {0, 1, 901, 1, 1, 0}, {0, 1, 1, 0, 1, 0}, {0, 1, 1, 81, 1, 0},
            {0, 1, 1, 1, 0, 0}, {0, 1, 1, 1, 81, 0}, {0, 1, 1, 1, 1, -1}, {0, 1, 1, 1, 1, 1000001},
            {LEAST, 1, 1, 1, 1, 0}, {0, LEAST, 1, 1, 1, 0}, {0, 1, LEAST, 1, 1, 0}, {0, 1, 1, LEAST, 1, 0}, {0, 1, 1, 1, LEAST, 0},
            {0, 1, 1, 1, 1, LEAST}, {MOST, 1, 1, 1, 1, 0}, {0, MOST, 1, 1, 1, 0}, {0, 1, MOST, 1, 1, 0}, {0, 1, 1, MOST, 1, 0},
            {0, 1, 1, 1, MOST, 0}, {0, 1, 1, 1, 1, MOST}};
        for (int[] n : none) {
            Look.refused("a number is none", ARGUMENT, Harbours.BUSY, x -> x.ship(0, n[0], n[1], n[2], n[3], n[4], true, n[5]));
            Look.refused("in an 81st, too", ARGUMENT, Harbours.FULL_PORT, x -> x.ship(0, n[0], n[1], n[2], n[3], n[4], true, n[5]));
        }
        for (int payer : new int[] {-1, 3, LEAST, MOST}) {
            Look.refused("no PAYER " + payer, INDEX, Harbours.BUSY, x -> x.ship(payer, 0, 1, 1, 1, 1, true, 0));
            Look.refused("told first", INDEX, Harbours.BUSY, x -> x.ship(payer, 6, 0, 0, 0, 0, true, -1));
        }
        Look.refused("no PAYER 30, told first of three", INDEX, Harbours.FULL_PORT, x -> x.ship(30, 6, 1, 1, 1, 1, true, 0));
    }

    /** "SHIPS (at most 80, numbered from 0 on)". */
    private static void the80thShip() {
        SiltHarbour x = withBerth(0, 900, 500, 50000);
        for (int i = 0; i < 80; i++) {
            Due.due("ship " + i, boat(x, 1), i);
        }
        Due.due("80", x.count(4), 80);
        Due.due("80 wait", x.count(5), 80);
        Due.due("79 ahead of the last", x.led(79, 9), 79);
        Due.thrown("an 81st", FULL, () -> boat(x, 1));
        Look.refused("an 81st ship", FULL, Harbours.FULL_PORT, y -> boat(y, 1));
        x.hours(120);
        Due.due("all are gone", x.count(6), 80);
        Due.due("none waits", x.count(5), 0);
        Due.due("the last left", x.led(79, 5), 81);
        Due.thrown("no room, though all are gone", FULL, () -> boat(x, 1));
        Due.text(x, "ship 1");
        Due.due("all 80 would have gone elsewhere", x.another(0, true), 80);
        Due.due("ships of the one PAYER", x.pays(0, 3), 80);
        Due.due("none touched", x.count(13), 0);
    }

    /** "So many HOURS .. not 0 to 120". */
    private static void hoursTakes() {
        SiltHarbour x = new SiltHarbour();
        int hour = 0;
        for (int n : new int[] {0, 1, 2, 23, 24, 25, 119, 120, 0}) {
            hour += n;
            Due.due("hours " + n, x.hours(n), hour);
            Due.due("HOUR", x.count(0), hour);
            Due.due("DAY", x.count(1), hour / 24);
        }
        Due.pass(x, 2399 - hour);
        Due.due("HOUR 2399: DAY 99", x.count(1), 99);
        Due.due("HOUR 2399: YEAR 0", x.count(2), 0);
        x.hours(1);
        Due.due("HOUR 2400: DAY 100", x.count(1), 100);
        Due.due("HOUR 2400: YEAR 1", x.count(2), 1);
    }

    private static void hoursRefuses() {
        for (int n : new int[] {-1, 121, LEAST, MOST}) {
            Look.refused("hours " + n, ARGUMENT, Harbours.NEW, x -> x.hours(n));
            Look.refused("hours later " + n, ARGUMENT, Harbours.BUSY, x -> x.hours(n));
            Look.refused("hours at last " + n, ARGUMENT, Harbours.LAST, x -> x.hours(n));
        }
        Look.refused("hours(0) changes nothing", 37, Harbours.BUSY, x -> x.hours(0));
    }

    /** "as far as HOUR may go": 30000 at last. */
    private static void hourAtLast() {
        SiltHarbour x = new SiltHarbour();
        x.run(0, 1);
        Due.pass(x, 29880);
        x.keep();
        Due.due("to the last one", x.hours(120), 30000);
        Due.due("its DAY", x.count(1), 1250);
        Due.due("its YEAR", x.count(2), 12);
        Due.due("1250 DAYS ended", x.count(14), 1250);
        for (int n : new int[] {0, 1, 120}) {
            Due.due("no further", x.hours(n), 30000);
        }
        Due.due("no further DAY ended", x.count(14), 1250);
        x.again();
        x.hours(119);
        Due.due("29999", x.count(0), 29999);
        Due.due("DAY 1249", x.count(1), 1249);
        Due.due("as far as it may", x.hours(2), 30000);
        Due.due("that DAY ended", x.count(14), 1250);
        Look.refused("an hour at last changes nothing", 30000, Harbours.LAST, y -> y.hours(1));
        Look.refused("nor do 120", 30000, Harbours.LAST, y -> y.hours(120));
    }

    /** Every answer of led in every STATE. */
    private static void ledOfEachState() {
        SiltHarbour x = withBerth(13, 100, 30, 1000);
        x.hours(2);
        Due.act(x, 0, "ton 2 if stay > 3;ship 5;back 20");
        x.ship(0, 0, 50, 50, 5, 5, false, 0);
        int[][] want = {
            {0, -1, 50, 2, -1, -1, 5, 0, 0, 0}, // HOUR 2: WAITING
            {1, 0, 50, 2, 5, -1, 5, 0, 0, -1}, // 3: coming in, at its BERTH in two HOURS
            {1, 0, 50, 2, 5, -1, 5, 0, 0, -1}, // 4
            {2, 0, 20, 2, 5, -1, 5, 0, 0, -1}, // 5: there, and it unloads
            {3, 0, 0, 2, 5, -1, 105, 0, 0, -1}, // 6: ready to leave
            {4, 0, 0, 2, 5, 7, 105, 0, 0, -1}, // 7: GONE
            {4, 0, 0, 2, 5, 7, 105, 0, 0, -1}}; // 8
        for (int i = 0; i < want.length; i++) {
            for (int what = 0; what < 10; what++) {
                Due.due("in HOUR " + x.count(0) + " led " + what, x.led(0, what), want[i][what]);
            }
            x.hours(1);
        }
        Due.due("BACK", x.back(0), 21);
        Due.due("what it had BACK", x.led(0, 7), 21);
    }

    private static void ledRefuses() {
        SiltHarbour x = Harbours.BUSY.get();
        for (int ship : new int[] {-1, 9, LEAST, MOST}) {
            Look.refused("led of " + ship, INDEX, Harbours.BUSY, y -> y.led(ship, 0));
            Due.thrown("no SHIP is told first", INDEX, () -> x.led(ship, 10));
        }
        for (int what : new int[] {-1, 10, LEAST, MOST}) {
            Look.refused("led " + what, ELEMENT, Harbours.BUSY, y -> y.led(0, what));
            Due.thrown("what " + what + " of the last", ELEMENT, () -> x.led(8, what));
        }
        Due.due("the last SHIP", x.led(8, 3), 0);
    }

    /** Every answer of quay while a SHIP comes, unloads, leaves. */
    private static void quayAnswers() {
        SiltHarbour x = withBerth(7, 100, 30, 45);
        x.hands(1, 0);
        boat(x, 50);
        int[][] want = {
            {7, 0, 0, -1, 0, 0}, // HOUR 0
            {7, 0, 0, 0, 0, 0}, // 1: coming in
            {7, 30, 0, 0, 0, 30}, // 2: there
            {7, 50, 0, 0, 1, 50}, // 3: ready, 50 lie there
            {7, 50, 0, -1, 2, 50}, // 4: GONE
            {7, 50, 0, -1, 3, 50}}; // 5
        for (int i = 0; i < want.length; i++) {
            for (int what = 0; what < 6; what++) {
                Due.due("in HOUR " + i + " quay " + what, x.quay(0, what), want[i][what]);
            }
            Due.due("all LOADS", x.count(8), want[i][1]);
            x.hours(1);
        }
        x.hands(1, 1);
        x.hours(2);
        Due.due("LOAD less what WAGONS took", x.quay(0, 1), 30);
        Due.due("tons that came in all", x.quay(0, 5), 50);
        Due.due("tons that they took", x.count(9), 20);
    }

    private static void quayRefuses() {
        SiltHarbour x = Harbours.BUSY.get();
        for (int berth : new int[] {-1, 3, LEAST, MOST}) {
            Look.refused("quay " + berth, INDEX, Harbours.BUSY, y -> y.quay(berth, 0));
            Due.thrown("no BERTH is told first", INDEX, () -> x.quay(berth, 6));
        }
        for (int what : new int[] {-1, 6, LEAST, MOST}) {
            Look.refused("quay what " + what, ELEMENT, Harbours.BUSY, y -> y.quay(0, what));
            Due.thrown("what " + what + " of the last", ELEMENT, () -> x.quay(2, what));
        }
        Due.due("the last BERTH", x.quay(2, 0), 6);
    }

    /** "The first hour (HOUR and 1 to 50)": never HOUR itself, whatever the STATE, the LONG or the BERTH's SHIP. */
    private static void windowFirstHour() {
        SiltHarbour x = withBerth(0, 1, 1, 1);
        x.tide(10, 5);
        x.ship(0, 0, 1, 900, 20, 20, false, 0);
        for (int h = 0; h <= 40; h++) {
            int want = h < 10 ? 10 : h < 35 ? 35 : 60;
            Due.due("the next tide behind " + h, x.window(0, 0, false), want);
            Due.due("out, too, behind " + h, x.window(0, 0, true), want);
            x.hours(1);
        }
        x.sound(0, 1, 19);
        Due.due("none", x.window(0, 0, false), -1);
        x.tide(10, 6);
        Due.due("at 60", x.window(0, 0, false), 60);
        SiltHarbour last = Harbours.LAST.get();
        Due.due("behind the last HOUR", last.window(0, 0, false), 30001);
        SiltHarbour gone = Harbours.PAID.get();
        Due.due("of a SHIP that is GONE", gone.window(0, 0, false), 3);
        Look.refused("window changes nothing", 60, () -> {
            SiltHarbour y = withBerth(0, 1, 1, 1);
            y.tide(10, 5);
            y.ship(0, 0, 1, 900, 20, 20, false, 0);
            y.hours(35);
            return y;
        }, y -> y.window(0, 0, true));
    }

    private static void windowRefuses() {
        for (int n : new int[] {-1, LEAST, MOST}) {
            Look.refused("window of SHIP " + n, INDEX, Harbours.BUSY, x -> x.window(n, 0, true));
            Look.refused("window to BERTH " + n, INDEX, Harbours.BUSY, x -> x.window(0, n, false));
        }
        Look.refused("window of SHIP 9", INDEX, Harbours.BUSY, x -> x.window(9, 0, true));
        Look.refused("window to BERTH 3", INDEX, Harbours.BUSY, x -> x.window(0, 3, false));
        Due.due("the last of both", Look.answer(x -> x.window(8, 2, true), Harbours.BUSY.get()) instanceof Integer, true);
    }
}
