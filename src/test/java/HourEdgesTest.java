/** The boundary cases of AN HOUR, sentence by sentence: ways, SAFE, TOUCHES, PILOTS, TURN, CRANES, WAGONS, SUNK. */
public final class HourEdgesTest {
    public static void main(String[] args) {
        hoursOfTheWay();
        cellsOfTheWayIn();
        cellsOfTheWayOut();
        safeIsNotLess();
        clearance();
        touchIsLess();
        touchOnceAWay();
        tideModulo25();
        soundedInTheSameHour();
        pilotsOfAWay();
        leavingByNumbers();
        leavingIsAheadOfComing();
        oneThatCannotDoesNotHinder();
        firstBerthByNumbers();
        longEnough();
        turnOfToday();
        cranes();
        wagons();
        moreLoadThanLimit();
        sunkEach24();
        closedWith10();
        closedWhileOneIsComing();
        paidAsItLeaves();
        Due.finish("HourEdgesTest");
    }

    private static SiltHarbour withBerth(int cell, int length, int crane, int limit) {
        SiltHarbour x = new SiltHarbour();
        x.berth(cell, length, crane, limit);
        x.payer();
        return x;
    }

    private static int boat(SiltHarbour x, int tons) {
        return x.ship(0, 0, tons, 50, 5, 5, false, 0);
    }

    /** "to be there in the hour HOUR and q by 6, rounded down (at once, if that is HOUR)"; the PILOT is busy 1 more. */
    private static void hoursOfTheWay() {
        for (int cell = 0; cell < 24; cell++) {
            SiltHarbour x = withBerth(cell, 100, 500, 1000);
            x.hands(1, 0);
            boat(x, 5);
            x.hours(1);
            int way = cell / 6;
            Due.due("STATE, CELL " + cell, x.led(0, 0), way == 0 ? 3 : 1);
            Due.due("there, CELL " + cell, x.led(0, 4), 1 + way);
            for (int h = 1; h <= 1 + way; h++) {
                Due.due("busy in HOUR " + h + ", CELL " + cell, x.count(7), 0);
                Due.due("unloaded by HOUR " + h + ", CELL " + cell, x.quay(0, 5), h == 1 + way ? 5 : 0);
                x.hours(1);
            }
            Due.due("GONE in the HOUR behind, CELL " + cell, x.led(0, 5), 2 + way);
            for (int h = 0; h <= way; h++) {
                Due.due("busy on the way out, CELL " + cell, x.count(7), 0);
                x.hours(1);
            }
            Due.due("free, CELL " + cell, x.count(7), 1);
        }
    }

    /** "it is at CELL c in the hour h and c by 6, rounded down": one CELL is too shallow but for the tide of one hour. */
    private static void cellsOfTheWayIn() {
        for (int cell = 0; cell < 24; cell++) {
            SiltHarbour x = withBerth(20, 100, 500, 1000);
            x.sound(cell, 0, 10);
            x.tide(12, 10);
            x.ship(0, 0, 1, 50, 15, 15, false, 0);
            int want = cell > 20 ? 1 : 12 - cell / 6;
            Due.due("window in, CELL " + cell, x.window(0, 0, false), want);
            x.hours(want - 1);
            Due.due("waits till then, CELL " + cell, x.led(0, 0), 0);
            x.hours(1);
            Due.due("comes in, CELL " + cell, x.led(0, 0), 1);
        }
    }

    /** "out: at CELL c in the hour h and (q less c) by 6, rounded down". */
    private static void cellsOfTheWayOut() {
        for (int cell = 0; cell < 24; cell++) {
            SiltHarbour x = withBerth(20, 100, 500, 1000);
            x.tide(17, 10);
            x.ship(0, 0, 1, 50, 5, 15, false, 0);
            x.hours(4);
            Due.due("ready", x.led(0, 0), 3);
            x.sound(cell, 0, 10);
            int want = cell > 20 ? 5 : 17 - (20 - cell) / 6;
            Due.due("window out, CELL " + cell, x.window(0, 0, true), want);
            x.hours(want - 5);
            Due.due("stays till then, CELL " + cell, x.led(0, 0), 3);
            x.hours(1);
            Due.due("leaves, CELL " + cell, x.led(0, 5), want);
        }
    }

    /** "not less than DRAUGHT (in or out) and CLEARANCE together", each CELL 0 to q. */
    private static void safeIsNotLess() {
        for (int cell : new int[] {0, 1, 5, 6, 11}) {
            for (int known = 14; known <= 16; known++) {
                SiltHarbour x = withBerth(11, 100, 500, 1000);
                x.sound(cell, 0, known);
                x.ship(0, 0, 1, 50, 10, 10, false, 0);
                Due.due("in over " + known, x.window(0, 0, false), known < 15 ? -1 : 1);
                Due.due("out over " + known, x.window(0, 0, true), known < 15 ? -1 : 1);
                x.hours(1);
                Due.due("comes in over " + known, x.led(0, 0), known < 15 ? 0 : 1);
            }
        }
        SiltHarbour y = withBerth(11, 100, 500, 1000);
        y.sound(12, 0, 0);
        boat(y, 1);
        Due.due("a CELL above the BERTH is not on the way", y.window(0, 0, false), 1);
        SiltHarbour z = withBerth(0, 100, 500, 1000);
        z.ship(0, 0, 1, 50, 15, 16, false, 0);
        z.hours(9);
        Due.due("in by the DRAUGHT in; out by the other", z.led(0, 0), 3);
        SiltHarbour w = withBerth(0, 100, 500, 1000);
        w.ship(0, 0, 1, 50, 16, 15, false, 0);
        w.hours(9);
        Due.due("in by the DRAUGHT in", w.led(0, 0), 0);
    }

    /** "the last clear LINE of the ACT of TODAY; 5 without". */
    private static void clearance() {
        String[] texts = {"", "clear 0", "clear 50", "clear 7;clear 3", "clear 3;clear 7", "ton 9;clear 3;pass 8", "clear 5"};
        int[] clear = {5, 0, 50, 3, 7, 3, 5};
        for (int i = 0; i < texts.length; i++) {
            SiltHarbour x = withBerth(0, 100, 500, 1000);
            x.river(0, 0, 200, 60);
            Due.act(x, 0, texts[i]);
            x.ship(0, 0, 1, 50, 60 - clear[i], 61 - clear[i], false, 0);
            Due.due("just safe by " + texts[i], x.window(0, 0, false), 1);
            Due.due("not safe by " + texts[i], x.window(0, 0, true), -1);
            x.hours(20);
            Due.due("comes in, does not leave", x.led(0, 0), 3);
            Due.due("at once", x.led(0, 4), 1);
        }
        SiltHarbour y = withBerth(0, 100, 500, 1000);
        Due.act(y, 0, "clear 10");
        Due.act(y, 1, "clear 4");
        y.ship(0, 0, 1, 50, 16, 1, false, 0);
        y.hours(23);
        Due.due("by TODAY's", y.window(0, 0, false), -1);
        y.hours(1);
        Due.due("HOUR 24 goes by the ACT of its own DAY", y.led(0, 4), 24);
    }

    /** "BED of some of these CELLS .. and that TIDE are less than the DRAUGHT", without CLEARANCE. */
    private static void touchIsLess() {
        for (int cell : new int[] {0, 5, 6, 11, 12, 23}) {
            for (int bed = 9; bed <= 11; bed++) {
                SiltHarbour x = withBerth(11, 100, 500, 1000);
                x.river(cell, cell, bed, 20);
                x.ship(0, 0, 1, 50, 10, 1, false, 0);
                x.ship(0, 0, 1, 50, 1, 10, false, 0);
                x.hours(12);
                int want = bed < 10 && cell <= 11 ? 1 : 0;
                Due.due("both gone", x.count(6), 2);
                Due.due("in over BED " + bed + " of " + cell, x.led(0, 8), want);
                Due.due("out over BED " + bed + " of " + cell, x.led(1, 8), want);
                Due.due("in all", x.count(13), 2 * want);
            }
        }
    }

    private static void touchOnceAWay() {
        SiltHarbour x = withBerth(23, 100, 500, 1000);
        x.river(0, 23, 0, 40);
        boat(x, 1);
        x.hours(1);
        Due.due("once on a way of 24 CELLS", x.led(0, 8), 1);
        x.hours(3);
        Due.due("as it begins the way, not later", x.led(0, 8), 1);
        x.hours(1);
        Due.due("once on the way out", x.led(0, 8), 2);
        Due.due("in all", x.count(13), 2);
        SiltHarbour y = withBerth(0, 100, 500, 1000);
        y.river(0, 0, 10, 20);
        y.ship(0, 0, 1, 50, 12, 12, false, 0);
        y.tide(1, 2);
        y.hours(1);
        Due.due("the TIDE is of help", y.led(0, 8), 0);
        y.tide(2, 1);
        y.hours(1);
        Due.due("a foot less is not enough", y.led(0, 8), 1);
        Due.due("gone", y.led(0, 0), 4);
    }

    /** "that of an hour by HOUR modulo 25", also on the way. */
    private static void tideModulo25() {
        SiltHarbour x = withBerth(23, 100, 500, 1000);
        for (int h = 0; h < 25; h++) {
            x.tide(h, -10);
        }
        x.tide(23, 0);
        x.tide(24, 0);
        x.tide(0, 0);
        x.tide(1, 0);
        x.ship(0, 0, 1, 50, 15, 15, false, 0);
        Due.due("in hours 23, 24, 25, 26", x.window(0, 0, false), 23);
        x.hours(22);
        Due.due("waits", x.led(0, 0), 0);
        x.hours(1);
        Due.due("comes in", x.led(0, 4), 26);
        Due.due("the next: 48 to 51", x.window(0, 0, true), 48);
        x.hours(24);
        Due.due("ready", x.led(0, 0), 3);
        x.hours(1);
        Due.due("left", x.led(0, 5), 48);
    }

    /** SAFE "as of HOUR": a sounding counts from the next HOUR's ways on. */
    private static void soundedInTheSameHour() {
        SiltHarbour x = withBerth(0, 100, 500, 1000);
        x.sound(0, 0, 9);
        boat(x, 1);
        x.hours(3);
        Due.due("too shallow", x.led(0, 0), 0);
        x.sound(0, 0, 10);
        x.hours(1);
        Due.due("just deep enough", x.led(0, 4), 4);
        x.sound(0, 0, 9);
        x.hours(3);
        Due.due("too shallow to leave", x.led(0, 0), 3);
        x.sound(0, 0, 10);
        x.hours(1);
        Due.due("left", x.led(0, 5), 8);
    }

    /** "if a PILOT is free": one way each, until none is. */
    private static void pilotsOfAWay() {
        for (int pilots = 0; pilots <= 4; pilots++) {
            SiltHarbour x = new SiltHarbour();
            x.payer();
            x.hands(pilots, 0);
            for (int i = 0; i < 3; i++) {
                x.berth(0, 100, 1, 1000);
                boat(x, 9);
            }
            x.hours(1);
            int moved = Math.min(pilots, 3);
            Due.due(pilots + " PILOTS: wait", x.count(5), 3 - moved);
            Due.due(pilots + " PILOTS: free", x.count(7), pilots - moved);
            x.hours(1);
            Due.due(pilots + " PILOTS, an HOUR later", x.count(5), 3 - Math.min(3, 2 * pilots));
        }
        SiltHarbour y = new SiltHarbour();
        y.payer();
        y.hands(20, 0);
        for (int i = 0; i < 10; i++) {
            y.berth(0, 100, 500, 1000);
        }
        for (int i = 0; i < 21; i++) {
            boat(y, 1);
        }
        y.hours(1);
        Due.due("10 to 10 BERTHS in one HOUR", y.count(5), 11);
        Due.due("10 are free", y.count(7), 10);
        y.hours(1);
        Due.due("10 out and 10 in with 20", y.count(5), 1);
        Due.due("none is free", y.count(7), 0);
        y.hours(1);
        Due.due("the last", y.count(5), 0);
    }

    /** "(b) SHIPS ready to leave, by numbers". */
    private static void leavingByNumbers() {
        SiltHarbour x = new SiltHarbour();
        x.payer();
        for (int i = 0; i < 3; i++) {
            x.berth(0, 100, 500, 1000);
        }
        x.hands(3, 0);
        x.ship(0, 0, 1, 50, 1, 16, false, 0);
        boat(x, 1);
        boat(x, 1);
        x.hours(1);
        x.hands(1, 0);
        x.hours(1);
        Due.due("0 draws too much", x.led(0, 0), 3);
        Due.due("1 leaves", x.led(1, 0), 4);
        Due.due("2 has no PILOT", x.led(2, 0), 3);
        x.sound(0, 0, 21);
        x.hours(1);
        Due.due("0 is ahead of 2", x.led(0, 0), 4);
        Due.due("2 waits on", x.led(2, 0), 3);
    }

    private static void leavingIsAheadOfComing() {
        SiltHarbour x = withBerth(0, 100, 500, 1000);
        x.berth(0, 100, 500, 1000);
        x.hands(1, 0);
        boat(x, 1);
        x.hours(1);
        boat(x, 1);
        x.hours(1);
        Due.due("the one PILOT leads out", x.led(0, 5), 2);
        Due.due("though a BERTH was free", x.led(1, 0), 0);
        x.hours(1);
        Due.due("in the next HOUR in", x.led(1, 4), 3);
        SiltHarbour y = withBerth(0, 100, 500, 1000);
        y.hands(2, 0);
        boat(y, 1);
        boat(y, 1);
        y.hours(2);
        Due.due("the BERTH is free at once", y.led(1, 4), 2);
        SiltHarbour z = withBerth(23, 100, 500, 1000);
        z.hands(2, 0);
        boat(z, 1);
        boat(z, 1);
        z.hours(5);
        Due.due("gone though still on the river", z.led(0, 0), 4);
        Due.due("free at once up the river, too", z.led(1, 0), 1);
        Due.due("for it", z.quay(0, 3), 1);
        Due.due("both PILOTS are busy", z.count(7), 0);
    }

    private static void oneThatCannotDoesNotHinder() {
        SiltHarbour x = withBerth(0, 100, 500, 1000);
        x.ship(0, 0, 1, 101, 5, 5, false, 0);
        x.ship(0, 0, 1, 50, 16, 5, false, 0);
        boat(x, 1);
        x.hours(1);
        Due.due("too long", x.led(0, 0), 0);
        Due.due("too deep", x.led(1, 0), 0);
        Due.due("the third comes in", x.led(2, 4), 1);
        Due.due("the first is ahead of none", x.led(0, 9), 0);
        Due.due("the second is behind it", x.led(1, 9), 1);
        SiltHarbour y = withBerth(0, 60, 500, 1000);
        y.berth(5, 900, 500, 1000);
        y.river(0, 0, 40, 40);
        y.ship(0, 0, 1, 100, 16, 5, false, 0);
        y.ship(0, 0, 1, 100, 16, 5, false, 0);
        y.ship(0, 0, 1, 50, 35, 5, false, 0);
        y.hours(1);
        Due.due("not by the CLEARANCE to the long BERTH", y.led(0, 0), 0);
        Due.due("nor the second", y.led(1, 0), 0);
        Due.due("the third by it to the deep one", y.led(2, 1), 0);
    }

    /** "of the BERTHS, by numbers, that are free, not CLOSED and LONG enough the first to which the way in is SAFE". */
    private static void firstBerthByNumbers() {
        SiltHarbour x = new SiltHarbour();
        x.payer();
        x.hands(20, 0);
        x.berth(0, 49, 1, 1000);
        x.berth(20, 900, 1, 1000);
        x.berth(3, 50, 1, 1000);
        x.berth(0, 900, 1, 1000);
        x.berth(1, 900, 1, 1000);
        x.sound(4, 0, 9);
        for (int i = 0; i < 4; i++) {
            boat(x, 99);
        }
        x.hours(1);
        int[] berths = {2, 3, 4, -1};
        for (int s = 0; s < 4; s++) {
            Due.due("the berth of " + s, x.led(s, 1), berths[s]);
        }
        x.sound(4, 0, 10);
        x.hours(1);
        Due.due("the way is safe now", x.led(3, 1), 1);
        Due.due("too short for all", x.quay(0, 3), -1);
    }

    private static void longEnough() {
        for (int length = 49; length <= 51; length++) {
            SiltHarbour x = withBerth(0, length, 500, 1000);
            boat(x, 1);
            x.hours(1);
            Due.due("LONG 50 at " + length, x.led(0, 0), length < 50 ? 0 : 3);
        }
    }

    /** "by the last turn LINE of the ACT of TODAY .. without one by come; of several alike by numbers". */
    private static void turnOfToday() {
        SiltHarbour x = withBerth(0, 900, 1, 1000);
        Due.act(x, 0, "turn tons down;turn tons");
        Due.act(x, 1, "turn good down");
        Due.act(x, 2, "ton 1");
        x.hands(0, 0);
        x.ship(0, 2, 30, 50, 5, 5, false, 0);
        x.hours(1);
        x.ship(0, 5, 10, 50, 5, 5, false, 0);
        x.ship(0, 5, 20, 50, 5, 5, false, 0);
        int[][] places = {{2, 0, 1}, {2, 0, 1}, {0, 1, 2}};
        for (int day = 0; day < 3; day++) {
            for (int s = 0; s < 3; s++) {
                Due.due("DAY " + day + " place of " + s, x.led(s, 9), places[day][s]);
            }
            x.keep();
            x.hands(1, 0);
            x.hours(1);
            Due.due("who comes in on DAY " + day, x.quay(0, 3), day < 2 ? 1 : 0);
            x.again();
            x.hours(24);
        }
    }

    /** "unloads what its CRANE can, as far as it has TONS, to the LOAD; with none left it is ready to leave". */
    private static void cranes() {
        for (int tons = 1; tons <= 21; tons++) {
            SiltHarbour x = withBerth(0, 900, 10, 1000);
            x.hands(1, 0);
            boat(x, tons);
            for (int h = 1; h <= 3; h++) {
                x.hours(1);
                int left = Math.max(0, tons - 10 * h);
                int ready = (tons + 9) / 10;
                Due.due("TONS left of " + tons + " in HOUR " + h, x.led(0, 2), left);
                Due.due("LOAD of " + tons + " in HOUR " + h, x.quay(0, 1), tons - left);
                Due.due("STATE of " + tons + " in HOUR " + h, x.led(0, 0), h < ready ? 2 : h == ready ? 3 : 4);
            }
        }
    }

    /** "each takes 10 tons, or what there is, of the BERTH of the greatest LOAD (of several the least number)". */
    private static void wagons() {
        for (int tons = 1; tons <= 31; tons++) {
            SiltHarbour x = withBerth(0, 900, 500, 1000);
            x.hands(1, 2);
            boat(x, tons);
            x.hours(1);
            Due.due("2 WAGONS of " + tons, x.count(9), Math.min(tons, 20));
            Due.due("what is left of " + tons, x.quay(0, 1), Math.max(0, tons - 20));
            x.hours(1);
            Due.due("in 2 HOURS of " + tons, x.count(9), Math.min(tons, 40));
        }
        SiltHarbour y = new SiltHarbour();
        y.payer();
        for (int i = 0; i < 3; i++) {
            y.berth(0, 900, 500, 1000);
        }
        y.hands(3, 0);
        boat(y, 20);
        boat(y, 25);
        boat(y, 25);
        y.hours(1);
        int[][] loads = {{20, 15, 25}, {20, 15, 15}, {10, 15, 15}, {10, 5, 15}, {10, 5, 5}, {0, 5, 5}, {0, 0, 5}, {0, 0, 0}, {0, 0, 0}};
        y.hands(3, 1);
        for (int[] l : loads) {
            y.hours(1);
            for (int b = 0; b < 3; b++) {
                Due.due("LOAD of " + b, y.quay(b, 1), l[b]);
            }
        }
        Due.due("all", y.count(9), 70);
    }

    /** "BERTHS with more LOAD than LIMIT", behind the WAGONS. */
    private static void moreLoadThanLimit() {
        for (int tons = 49; tons <= 51; tons++) {
            SiltHarbour x = withBerth(0, 900, 500, 50);
            x.hands(1, 0);
            boat(x, tons);
            x.hours(5);
            Due.due("HOURS with " + tons, x.quay(0, 4), tons > 50 ? 5 : 0);
            SiltHarbour y = withBerth(0, 900, 500, 40);
            boat(y, tons);
            y.hours(1);
            Due.due("less 10 with " + tons, y.quay(0, 4), tons > 50 ? 1 : 0);
        }
    }

    /** "SUNK: 1 more each time that 24 HOURS had more LOAD than LIMIT at their end (not needed one behind the other)". */
    private static void sunkEach24() {
        SiltHarbour x = withBerth(0, 900, 500, 5);
        x.hands(1, 0);
        boat(x, 6);
        for (int h = 1; h <= 49; h++) {
            x.hours(1);
            Due.due("HOURS", x.quay(0, 4), h);
            Due.due("SUNK in HOUR " + h, x.quay(0, 2), h / 24);
        }
        x.hands(1, 1);
        x.hours(9);
        Due.due("no more of them", x.quay(0, 4), 49);
        x.hands(1, 0);
        boat(x, 6);
        x.hours(22);
        Due.due("71", x.quay(0, 4), 71);
        Due.due("2", x.quay(0, 2), 2);
        x.hours(1);
        Due.due("3", x.quay(0, 2), 3);
    }

    /** "with SUNK 10 it is CLOSED for ever to ships that are not there yet". */
    private static void closedWith10() {
        SiltHarbour x = withBerth(0, 900, 500, 5);
        x.berth(1, 100, 500, 50000);
        x.hands(1, 0);
        boat(x, 6);
        Due.pass(x, 239);
        x.keep();
        Due.due("SUNK 9", x.quay(0, 2), 9);
        boat(x, 1);
        x.hours(1);
        Due.due("a ship comes to it", x.led(1, 1), 0);
        Due.due("SUNK 10", x.quay(0, 2), 10);
        x.hours(1);
        Due.due("and leaves", x.led(1, 0), 4);
        x.again();
        x.hours(1);
        Due.due("SUNK 10 now", x.quay(0, 2), 10);
        boat(x, 1);
        x.hours(1);
        Due.due("it goes to the other", x.led(1, 1), 1);
        x.hands(1, 1);
        x.hours(2);
        Due.due("no LOAD any more", x.quay(0, 1), 0);
        x.ship(0, 0, 1, 101, 5, 5, false, 0);
        x.hours(120);
        Due.due("for ever", x.led(2, 0), 0);
        Due.due("it is not brought in", x.bring(), -1);
        Due.due("though the way is safe", x.window(2, 0, false), x.count(0) + 1);
    }

    private static void closedWhileOneIsComing() {
        SiltHarbour x = withBerth(23, 900, 500, 5);
        x.hands(1, 0);
        boat(x, 6);
        Due.pass(x, 240);
        Due.due("from HOUR 4 on", x.quay(0, 4), 237);
        boat(x, 1);
        x.hours(1);
        Due.due("coming in", x.led(1, 0), 1);
        x.hours(2);
        Due.due("SUNK 10 meanwhile", x.quay(0, 2), 10);
        Due.due("still coming", x.led(1, 0), 1);
        x.hours(1);
        Due.due("it comes there all the same", x.led(1, 0), 3);
    }

    private static void paidAsItLeaves() {
        SiltHarbour x = withBerth(23, 900, 500, 1000);
        Due.act(x, 0, "ship 9;ton 1 if stay > 4");
        boat(x, 7);
        x.hours(4);
        Due.due("stay 4", x.led(0, 6), 9);
        Due.due("not paid yet", x.count(11), 0);
        x.hours(1);
        Due.due("paid in the HOUR in which it leaves", x.count(11), 16);
        Due.due("CASH", x.count(10), 16);
        Due.due("by its PAYER", x.pays(0, 0), 16);
        x.hours(9);
        Due.due("its stay goes on no more", x.led(0, 6), 16);
    }
}
