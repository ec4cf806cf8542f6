import java.util.NoSuchElementException;

/** Promises 12 to 19: berths, hands, payers, ships, hours, led, quay and window. */
public final class PortTest {
    private static final Class<?> INDEX = IndexOutOfBoundsException.class;
    private static final Class<?> ARGUMENT = IllegalArgumentException.class;
    private static final Class<?> FULL = UnsupportedOperationException.class;
    private static final Class<?> ELEMENT = NoSuchElementException.class;

    public static void main(String[] args) {
        berths();
        hands();
        payersAndShips();
        shipNumbers();
        hours();
        wayUp();
        wayOut();
        pilotsStayBusy();
        turnOfEqualShips();
        turnKeys();
        berthsByNumbers();
        berthIsFreeAtOnce();
        touches();
        touchesByTheHourOfEachCell();
        noPilots();
        turnWithoutLine();
        wagons();
        sinking();
        closedBerth();
        window();
        clearanceOfToday();
        knownNotBed();
        Due.finish("PortTest");
    }

    private static SiltHarbour withBerth(int cell, int length, int crane, int limit) {
        SiltHarbour x = new SiltHarbour();
        x.berth(cell, length, crane, limit);
        x.payer();
        return x;
    }

    private static int boat(SiltHarbour x, int tons) {
        return x.ship(0, 0, tons, 50, 5, 5, false, 0);
    }

    private static void berths() {
        SiltHarbour x = new SiltHarbour();
        Due.thrown("cell 24", INDEX, () -> x.berth(24, 0, 0, 0));
        Due.thrown("cell -1", INDEX, () -> x.berth(-1, 1, 1, 1));
        Due.thrown("length 0", ARGUMENT, () -> x.berth(0, 0, 1, 1));
        Due.thrown("length 901", ARGUMENT, () -> x.berth(0, 901, 1, 1));
        Due.thrown("crane 0", ARGUMENT, () -> x.berth(0, 1, 0, 1));
        Due.thrown("crane 501", ARGUMENT, () -> x.berth(0, 1, 501, 1));
        Due.thrown("limit 0", ARGUMENT, () -> x.berth(0, 1, 1, 0));
        Due.thrown("limit 50001", ARGUMENT, () -> x.berth(0, 1, 1, 50001));
        for (int i = 0; i < 10; i++) {
            Due.due("berth", x.berth(i + 14, 900, 500, 50000), i);
        }
        Due.thrown("an 11th", FULL, () -> x.berth(0, 1, 1, 1));
        Due.thrown("a wrong 11th", ARGUMENT, () -> x.berth(0, 1, 1, 0));
        Due.due("berths", x.count(3), 10);
        Due.due("cell", x.quay(9, 0), 23);
        for (int what = 1; what < 6; what++) {
            Due.due("new quay " + what, x.quay(0, what), what == 3 ? -1 : 0);
        }
        Due.thrown("quay 10", INDEX, () -> x.quay(10, 99));
        Due.thrown("quay -1", INDEX, () -> x.quay(-1, 0));
        Due.thrown("what 6", ELEMENT, () -> x.quay(0, 6));
        Due.thrown("what -1", ELEMENT, () -> x.quay(0, -1));
    }

    private static void hands() {
        SiltHarbour x = new SiltHarbour();
        Due.thrown("pilots -1", ARGUMENT, () -> x.hands(-1, 0));
        Due.thrown("pilots 21", ARGUMENT, () -> x.hands(21, 0));
        Due.thrown("wagons -1", ARGUMENT, () -> x.hands(0, -1));
        Due.thrown("wagons 101", ARGUMENT, () -> x.hands(0, 101));
        Due.due("two at first", x.count(7), 2);
        x.hands(20, 100);
        Due.due("twenty", x.count(7), 20);
        x.hands(0, 0);
        Due.due("none", x.count(7), 0);
    }

    private static void payersAndShips() {
        SiltHarbour x = new SiltHarbour();
        Due.thrown("no payer", INDEX, () -> x.ship(0, 9, 0, 0, 0, 0, false, -1));
        for (int i = 0; i < 30; i++) {
            Due.due("payer", x.payer(), i);
        }
        Due.thrown("a 31st", FULL, () -> x.payer());
        for (int i = 0; i < 80; i++) {
            Due.due("ship", x.ship(i % 30, i % 6, 20000, 900, 80, 80, true, 1000000), i);
        }
        Due.thrown("an 81st", FULL, () -> boat(x, 1));
        Due.thrown("a wrong 81st", ARGUMENT, () -> boat(x, 0));
        Due.thrown("of no payer", INDEX, () -> x.ship(30, 0, 0, 1, 1, 1, false, 0));
        Due.due("ships", x.count(4), 80);
        Due.due("waiting", x.count(5), 80);
        Due.due("gone", x.count(6), 0);
        Due.due("ships of 0", x.pays(0, 3), 3);
        Due.due("ships of 29", x.pays(29, 3), 2);
        Due.thrown("led 80", INDEX, () -> x.led(80, 99));
        Due.thrown("led -1", INDEX, () -> x.led(-1, 0));
        Due.thrown("what 10", ELEMENT, () -> x.led(0, 10));
        Due.thrown("what -1", ELEMENT, () -> x.led(0, -1));
    }

    private static void shipNumbers() {
        SiltHarbour x = withBerth(0, 1, 1, 1);
        int[][] wrongOnes = {
            {-1, 1, 1, 1, 1, 0}, {6, 1, 1, 1, 1, 0}, {0, 0, 1, 1, 1, 0}, {0, 20001, 1, 1, 1, 0},
            {0, 1, 0, 1, 1, 0}, {0, 1, 901, 1, 1, 0}, {0, 1, 1, 0, 1, 0}, {0, 1, 1, 81, 1, 0},
            {0, 1, 1, 1, 0, 0}, {0, 1, 1, 1, 81, 0}, {0, 1, 1, 1, 1, -1}, {0, 1, 1, 1, 1, 1000001}};
        for (int[] w : wrongOnes) {
            Due.thrown("a number is none", ARGUMENT, () -> x.ship(0, w[0], w[1], w[2], w[3], w[4], false, w[5]));
        }
        Due.due("none came", x.count(4), 0);
        x.hours(7);
        x.ship(0, 5, 3, 1, 1, 1, false, 0);
        int[] fresh = {0, -1, 3, 7, -1, -1, 0, 0, 0, 0};
        for (int what = 0; what < fresh.length; what++) {
            Due.due("a new ship's " + what, x.led(0, what), fresh[what]);
        }
    }

    private static void hours() {
        SiltHarbour x = new SiltHarbour();
        Due.thrown("-1", ARGUMENT, () -> x.hours(-1));
        Due.thrown("121", ARGUMENT, () -> x.hours(121));
        Due.due("0", x.hours(0), 0);
        Due.due("120", x.hours(120), 120);
        Due.due("day", x.count(1), 5);
        Due.pass(x, 2279);
        Due.due("year 0", x.count(2), 0);
        Due.due("day 99", x.count(1), 99);
        x.hours(1);
        Due.due("year 1", x.count(2), 1);
        Due.pass(x, 27550);
        Due.due("as far as it may go", x.hours(120), 30000);
        Due.due("no further", x.hours(120), 30000);
        Due.due("the last day", x.count(1), 1250);
        Due.due("the last year", x.count(2), 12);
    }

    private static void wayUp() {
        SiltHarbour x = withBerth(23, 100, 7, 1000);
        x.hands(1, 0);
        boat(x, 15);
        x.hours(1);
        Due.due("coming", x.led(0, 0), 1);
        Due.due("to be there", x.led(0, 4), 4);
        Due.due("its berth", x.led(0, 1), 0);
        Due.due("has it", x.quay(0, 3), 0);
        Due.due("not waiting", x.led(0, 9), -1);
        for (int h = 1; h <= 4; h++) {
            Due.due("the pilot is busy", x.count(7), 0);
            Due.due("state", x.led(0, 0), h < 4 ? 1 : 2);
            x.hours(1);
        }
        Due.due("the pilot is free", x.count(7), 1);
        Due.due("two hours of unloading", x.led(0, 2), 1);
        Due.due("load", x.quay(0, 1), 14);
        x.hours(1);
        Due.due("ready", x.led(0, 0), 3);
        Due.due("landed", x.quay(0, 5), 15);
        Due.due("of all", x.count(8), 15);
    }

    private static void wayOut() {
        SiltHarbour x = withBerth(12, 100, 500, 1000);
        for (int h = 0; h < 25; h++) {
            x.tide(h, -20);
        }
        int[] in = {1, 2, 3};
        for (int h : in) {
            x.tide(h, 0);
        }
        x.ship(0, 0, 5, 50, 15, 10, false, 0);
        x.hours(3);
        Due.due("ready in the hour it is there", x.led(0, 0), 3);
        x.tide(11, -5);
        x.tide(12, -5);
        x.tide(13, -4);
        x.sound(12, 0, 21);
        x.sound(0, 0, 19);
        Due.due("out from cell 12 first", x.window(0, 0, true), 11);
        x.sound(0, 0, 18);
        Due.due("too shallow at the end; next day's tide", x.window(0, 0, true), 26);
        x.sound(0, 0, 19);
        x.hours(7);
        Due.due("waits for the tide", x.led(0, 0), 3);
        x.hours(1);
        Due.due("gone", x.led(0, 0), 4);
        Due.due("in hour 11", x.led(0, 5), 11);
        Due.due("the berth it had", x.led(0, 1), 0);
        Due.due("when it was there", x.led(0, 4), 3);
        Due.due("no one has it", x.quay(0, 3), -1);
        Due.due("count gone", x.count(6), 1);
    }

    private static void pilotsStayBusy() {
        SiltHarbour x = new SiltHarbour();
        x.payer();
        for (int i = 0; i < 4; i++) {
            x.berth(12, 100, 1, 1000);
        }
        for (int i = 0; i < 4; i++) {
            boat(x, 100);
        }
        x.hours(1);
        Due.due("two pilots, two ships", x.count(5), 2);
        x.hands(3, 0);
        Due.due("one more is free", x.count(7), 1);
        x.hours(1);
        Due.due("leads a third", x.count(5), 1);
        x.hands(1, 0);
        Due.due("no fewer than none", x.count(7), 0);
        x.hours(1);
        Due.due("three are busy, one there is", x.count(7), 0);
        Due.due("none comes", x.count(5), 1);
        x.hours(1);
        Due.due("one is busy still", x.count(7), 0);
        x.hours(1);
        Due.due("the fourth is led", x.count(5), 0);
    }

    private static void turnOfEqualShips() {
        SiltHarbour x = withBerth(0, 100, 500, 1000);
        boat(x, 1);
        boat(x, 1);
        x.hours(0);
        Due.due("by numbers", x.led(1, 9), 1);
        Due.act(x, 0, "turn come down");
        Due.due("of alike ones by numbers, too", x.led(0, 9), 0);
        Due.due("the other behind it", x.led(1, 9), 1);
        x.hours(1);
        Due.due("first in turn", x.led(0, 0), 3);
        Due.due("waits", x.led(1, 0), 0);
        boat(x, 1);
        Due.due("down: the latest first", x.led(2, 9), 0);
        Due.due("and the other behind", x.led(1, 9), 1);
    }

    private static void turnKeys() {
        SiltHarbour x = new SiltHarbour();
        x.payer();
        x.ship(0, 3, 30, 10, 5, 5, false, 0);
        x.ship(0, 1, 20, 30, 5, 5, false, 0);
        x.ship(0, 2, 10, 20, 5, 5, false, 0);
        x.hours(1);
        x.ship(0, 0, 40, 5, 5, 5, false, 0);
        String[] acts = {"turn come", "turn come down", "turn tons", "turn tons down", "turn long", "turn long down",
            "turn good", "turn good down", "turn good;turn tons;ton 5", ""};
        int[][] places = {{0, 1, 2, 3}, {1, 2, 3, 0}, {2, 1, 0, 3}, {1, 2, 3, 0}, {1, 3, 2, 0}, {2, 0, 1, 3},
            {3, 1, 2, 0}, {0, 2, 1, 3}, {2, 1, 0, 3}, {0, 1, 2, 3}};
        for (int i = 0; i < acts.length; i++) {
            Due.act(x, 0, acts[i]);
            for (int s = 0; s < 4; s++) {
                Due.due(acts[i] + " of " + s, x.led(s, 9), places[i][s]);
            }
        }
    }

    private static void berthsByNumbers() {
        SiltHarbour x = new SiltHarbour();
        x.payer();
        x.berth(3, 49, 1, 1000);
        x.berth(5, 50, 1, 1000);
        x.berth(0, 90, 1, 1000);
        x.berth(0, 900, 1, 1000);
        x.sound(5, 0, 9);
        boat(x, 9);
        x.hours(1);
        Due.due("too short, too shallow, then the third", x.led(0, 1), 2);
        boat(x, 9);
        x.ship(0, 0, 9, 10, 5, 5, false, 0);
        x.hours(1);
        Due.due("the fourth", x.led(1, 1), 3);
        Due.due("a short one", x.led(2, 1), 0);
        boat(x, 9);
        x.sound(5, 0, 10);
        x.hours(1);
        Due.due("just deep enough", x.led(3, 1), 1);
    }

    private static void berthIsFreeAtOnce() {
        SiltHarbour x = withBerth(0, 100, 500, 1000);
        boat(x, 1);
        boat(x, 1);
        x.hours(2);
        Due.due("the first is gone", x.led(0, 5), 2);
        Due.due("the second is there in that hour", x.led(1, 4), 2);
        Due.due("and has unloaded", x.led(1, 0), 3);
        Due.due("both pilots are busy", x.count(7), 0);
        boat(x, 1);
        x.hands(1, 1);
        x.hours(1);
        Due.due("who leaves is led first", x.led(1, 5), 3);
        Due.due("so the third waits", x.led(2, 0), 0);
    }

    private static void touches() {
        SiltHarbour x = withBerth(7, 100, 500, 1000);
        x.river(3, 3, 14, 20);
        x.tide(2, -1);
        x.tide(3, 1);
        x.ship(0, 0, 1, 50, 14, 14, false, 0);
        x.ship(0, 0, 1, 50, 15, 15, false, 0);
        x.hours(1);
        Due.due("just deep enough", x.led(0, 8), 0);
        x.hours(2);
        Due.due("out, the tide of the hour at that cell", x.led(0, 5), 3);
        Due.due("cell 3 is left in hour 3", x.led(0, 8), 0);
        Due.due("the second comes in hour 3", x.led(1, 4), 4);
        Due.due("with a foot of tide", x.led(1, 8), 0);
        x.hours(3);
        Due.due("gone", x.led(1, 0), 4);
        Due.due("touches as it leaves", x.led(1, 8), 1);
        Due.due("in all", x.count(13), 1);
    }

    private static void touchesByTheHourOfEachCell() {
        SiltHarbour x = withBerth(6, 100, 500, 1000);
        x.river(0, 5, 10, 20);
        x.river(6, 6, 5, 20);
        for (int h = 0; h < 25; h++) {
            x.tide(h, 10);
        }
        x.tide(1, 0);
        x.ship(0, 0, 1, 50, 11, 1, false, 0);
        x.hours(1);
        Due.due("the low tide is at cells 0 to 5", x.led(0, 8), 1);
        SiltHarbour y = withBerth(6, 100, 500, 1000);
        y.river(0, 5, 10, 20);
        y.river(6, 6, 5, 20);
        y.tide(2, 5);
        y.ship(0, 0, 1, 50, 10, 10, false, 0);
        y.hours(1);
        Due.due("the high tide is at cell 6", y.led(0, 8), 0);
        y.tide(3, 5);
        y.hours(2);
        Due.due("gone", y.led(0, 5), 3);
        Due.due("out, the high tide is at cell 6 first", y.led(0, 8), 0);
        Due.due("none touched", y.count(13), 0);
        SiltHarbour z = withBerth(6, 100, 500, 1000);
        z.river(0, 5, 10, 20);
        z.river(6, 6, 5, 20);
        z.tide(2, 5);
        z.ship(0, 0, 1, 50, 10, 10, false, 0);
        z.hours(2);
        z.tide(4, 5);
        z.hours(1);
        Due.due("gone", z.led(0, 5), 3);
        Due.due("an hour too late", z.led(0, 8), 1);
        Due.due("in all", z.count(13), 1);
    }

    private static void noPilots() {
        SiltHarbour x = withBerth(0, 100, 500, 1000);
        boat(x, 1);
        x.hours(1);
        x.hands(0, 0);
        boat(x, 1);
        x.hours(9);
        Due.due("none to lead it out", x.led(0, 0), 3);
        x.hands(1, 0);
        x.hours(1);
        Due.due("one to lead it out", x.led(0, 5), 11);
        Due.due("and none to lead the other in", x.led(1, 0), 0);
    }

    private static void turnWithoutLine() {
        SiltHarbour x = withBerth(0, 100, 500, 1000);
        Due.act(x, 0, "ton 1");
        boat(x, 9);
        x.hours(0);
        boat(x, 2);
        x.hours(1);
        Due.due("who came first", x.led(0, 0), 3);
        Due.due("not who has less", x.led(1, 0), 0);
        SiltHarbour y = withBerth(0, 100, 1, 1000);
        y.berth(0, 100, 1, 1000);
        y.berth(0, 100, 1, 1000);
        y.hands(1, 1);
        for (int i = 0; i < 3; i++) {
            y.ship(0, 3 - i, 9 - i, 20 - i, 5, 5, false, 0);
        }
        for (int i = 0; i < 3; i++) {
            y.hours(1);
            Due.due("in the order of coming " + i, y.led(i, 4) >= 0, true);
        }
    }

    private static void wagons() {
        SiltHarbour x = new SiltHarbour();
        x.payer();
        x.berth(0, 100, 500, 50000);
        x.berth(0, 100, 500, 50000);
        x.hands(2, 0);
        boat(x, 25);
        boat(x, 38);
        x.hours(1);
        Due.due("no wagons", x.count(8), 63);
        x.hands(2, 3);
        x.hours(1);
        Due.due("38, 28, 25", x.quay(0, 1), 15);
        Due.due("the greatest load first", x.quay(1, 1), 18);
        x.hours(1);
        Due.due("18, 15, 8", x.quay(0, 1), 5);
        Due.due("0 of it", x.quay(1, 1), 0);
        Due.due("took", x.count(9), 58);
        x.hours(1);
        Due.due("what there is", x.count(9), 63);
        Due.due("none left", x.count(8), 0);
        boat(x, 11);
        x.hands(2, 1);
        x.hours(1);
        Due.due("a ton is left", x.count(8), 1);
        x.hours(1);
        Due.due("that, too", x.count(8), 0);
        SiltHarbour y = new SiltHarbour();
        y.payer();
        y.berth(0, 100, 20, 50000);
        y.berth(0, 100, 20, 50000);
        boat(y, 20);
        boat(y, 20);
        y.hours(1);
        Due.due("of several alike the least number", y.quay(0, 1), 10);
        Due.due("not the other", y.quay(1, 1), 20);
    }

    private static void sinking() {
        SiltHarbour x = withBerth(0, 100, 500, 20);
        x.hands(1, 0);
        boat(x, 20);
        x.hours(30);
        Due.due("as much as the limit is not more", x.quay(0, 4), 0);
        boat(x, 1);
        x.hours(23);
        Due.due("23 hours", x.quay(0, 4), 23);
        Due.due("no sinking", x.quay(0, 2), 0);
        x.hands(1, 1);
        x.hours(5);
        x.hands(1, 0);
        Due.due("no more hours", x.quay(0, 4), 23);
        boat(x, 500);
        x.hours(1);
        Due.due("not one behind the other", x.quay(0, 2), 1);
        x.hours(47);
        Due.due("not yet 3", x.quay(0, 2), 2);
        x.hours(1);
        Due.due("now 3", x.quay(0, 2), 3);
    }

    private static void closedBerth() {
        SiltHarbour x = withBerth(0, 100, 2, 1);
        x.hands(1, 0);
        boat(x, 1000);
        Due.pass(x, 240);
        Due.due("sunk", x.quay(0, 2), 10);
        Due.due("the one that is there goes on", x.led(0, 0), 2);
        closesAtTen();
        boat(x, 1);
        Due.pass(x, 261);
        Due.due("and leaves", x.led(0, 5), 501);
        x.hours(5);
        Due.due("no other comes", x.led(1, 0), 0);
        Due.due("sinks on", x.quay(0, 2), 506 / 24);
        Due.due("cannot be brought", x.bring(), -1);
        Due.due("the way is safe all the same", x.window(1, 0, false), 507);
    }

    private static void closesAtTen() {
        SiltHarbour x = withBerth(0, 100, 10, 1);
        x.hands(2, 0);
        boat(x, 10);
        x.hours(2);
        Due.due("gone", x.led(0, 0), 4);
        Due.pass(x, 237);
        Due.due("239 hours", x.quay(0, 4), 239);
        x.keep();
        boat(x, 1);
        x.hours(1);
        Due.due("one comes with 9", x.led(1, 0), 3);
        x.again();
        x.hours(1);
        boat(x, 1);
        x.hours(1);
        Due.due("none with 10", x.led(1, 0), 0);
        Due.due("sunk", x.quay(0, 2), 10);
    }

    private static void window() {
        SiltHarbour x = withBerth(6, 10, 1, 1);
        x.tide(7, 20);
        x.tide(8, 19);
        x.ship(0, 0, 1, 900, 34, 33, false, 0);
        Due.due("in", x.window(0, 0, false), 7);
        Due.due("out", x.window(0, 0, true), 7);
        x.tide(8, 18);
        Due.due("in too shallow at cell 6", x.window(0, 0, false), -1);
        x.hours(6);
        Due.due("the next hour", x.window(0, 0, true), 7);
        x.hours(1);
        Due.due("not this one", x.window(0, 0, true), 32);
        Due.thrown("no ship", INDEX, () -> x.window(1, 0, true));
        Due.thrown("no ship below", INDEX, () -> x.window(-1, 0, true));
        Due.thrown("no berth", INDEX, () -> x.window(0, 1, true));
        Due.thrown("no berth below", INDEX, () -> x.window(0, -1, true));
    }

    private static void clearanceOfToday() {
        SiltHarbour x = withBerth(0, 100, 500, 1000);
        x.ship(0, 0, 1, 1, 16, 1, false, 0);
        x.hours(3);
        Due.due("5 without a line", x.led(0, 0), 0);
        Due.act(x, 1, "clear 50;clear 4");
        x.hours(20);
        Due.due("day 0 still", x.led(0, 0), 0);
        x.hours(1);
        Due.due("hour 24 is of day 1", x.led(0, 4), 24);
        x.ship(0, 0, 1, 1, 20, 1, false, 0);
        Due.due("20 and 4 is too much", x.window(1, 0, false), -1);
        Due.act(x, 1, "clear 0");
        Due.due("no clearance at all", x.window(1, 0, false), 25);
    }

    private static void knownNotBed() {
        SiltHarbour x = withBerth(0, 100, 500, 1000);
        x.river(0, 0, 5, 40);
        x.ship(0, 0, 1, 1, 35, 36, false, 0);
        x.hours(1);
        Due.due("pilots go by what was sounded", x.led(0, 0), 3);
        Due.due("and touch", x.led(0, 8), 1);
        x.hours(5);
        Due.due("too shallow to leave by it", x.led(0, 0), 3);
        x.sound(0, 0, 41);
        x.hours(1);
        Due.due("gone by a wrong sounding", x.led(0, 0), 4);
        Due.due("touched twice", x.led(0, 8), 2);
    }
}
