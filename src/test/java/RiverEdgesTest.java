import java.util.NoSuchElementException;
import java.util.function.Supplier;

/** The boundary cases of promises 1 and 4 to 11, sentence by sentence: calls on the river. */
public final class RiverEdgesTest {
    private static final Class<?> INDEX = IndexOutOfBoundsException.class;
    private static final Class<?> ARGUMENT = IllegalArgumentException.class;
    private static final Class<?> STATE = IllegalStateException.class;
    private static final Class<?> FULL = UnsupportedOperationException.class;
    private static final Class<?> ELEMENT = NoSuchElementException.class;
    private static final int LEAST = Integer.MIN_VALUE;
    private static final int MOST = Integer.MAX_VALUE;

    public static void main(String[] args) {
        aNewObject();
        aNewObjectHasNone();
        newTides();
        riverTakes();
        riverRefuses();
        riverLater();
        tideTakes();
        tideRefuses();
        runTakes();
        runRefuses();
        the40thTelling();
        dredgerTakes();
        dredgerRefuses();
        stationTells();
        stationRefuses();
        cellAnswers();
        soundTakes();
        soundRefuses();
        the200thSounding();
        knownAsOf();
        Due.finish("RiverEdgesTest");
    }

    /** "No BERTHS, no SHIPS, no ACT; HOUR 0", and what the terms tell "at first". */
    private static void aNewObject() {
        SiltHarbour x = new SiltHarbour();
        for (int what = 0; what < 24; what++) {
            int want = what == 7 ? 2 : what == 23 ? 480 : 0;
            Due.due("new count(" + what + ")", x.count(what), want);
        }
        for (int c = 0; c < 24; c++) {
            for (int what = 0; what < 4; what++) {
                Due.due("new cell(" + c + ", " + what + ")", x.cell(c, what), what == 2 ? 0 : 20);
            }
        }
        Due.due("no text was read", x.fault(), -1);
        Due.due("none waits", x.bring(), 0);
        Due.due("no WORKS", x.best(1000000), 0);
        Due.due("no IMAGE", x.again(), false);
        Due.due("an empty TAPE", x.feed(0, 0, 0, 0, 0), 20);
        x.hours(24);
        Due.due("no RUN", x.count(14), 0);
        Due.due("no HEAP", x.count(22), 0);
    }

    private static void aNewObjectHasNone() {
        SiltHarbour x = new SiltHarbour();
        for (int n : new int[] {-1, 0, 1}) {
            Due.thrown("no DREDGER", INDEX, () -> x.station(n, 0, 0));
            Due.thrown("no BERTH", INDEX, () -> x.quay(n, 0));
            Due.thrown("no SHIP", INDEX, () -> x.led(n, 0));
            Due.thrown("no SHIP to judge", INDEX, () -> x.judge(n, 0));
            Due.thrown("no SHIP for back", INDEX, () -> x.back(n));
            Due.thrown("no SHIP for a window", INDEX, () -> x.window(n, 0, true));
            Due.thrown("no PAYER", INDEX, () -> x.pays(n, 0));
            Due.thrown("no PAYER to vote", INDEX, () -> x.vote(n, true));
            Due.thrown("no PAYER of a ship", INDEX, () -> x.ship(n, 0, 1, 1, 1, 1, false, 0));
            Due.thrown("no BOND", INDEX, () -> x.owes(n, 0));
        }
        Due.thrown("no VOTE to close", STATE, () -> x.close());
        Due.due("no ACT, so no borrow LINE", x.bond(1, 0, 0, 1), -1);
        Due.due("no first PAYER yet", x.payer(), 0);
        Due.thrown("no VOTE to vote in", STATE, () -> x.vote(0, true));
    }

    /** TIDE is 0 at first in each of the 25 hours; CLEARANCE 5 without an ACT. */
    private static void newTides() {
        SiltHarbour x = new SiltHarbour();
        x.payer();
        x.berth(0, 1, 1, 1);
        x.ship(0, 0, 1, 2, 15, 16, false, 0);
        for (int h = 0; h < 30; h++) {
            Due.due("15 and 5 are not above 20", x.window(0, 0, false), h + 1);
            Due.due("16 and 5 are, in every hour", x.window(0, 0, true), -1);
            x.hours(1);
        }
    }

    /** "BED and NATURAL of all CELLS from one to another one": 0 to 23, 0 to 200. */
    private static void riverTakes() {
        int[][] taken = {{0, 0}, {0, 23}, {23, 23}, {5, 6}, {7, 7}, {0, 22}, {1, 23}};
        for (int[] t : taken) {
            SiltHarbour x = new SiltHarbour();
            x.river(t[0], t[1], 0, 200);
            for (int c = 0; c < 24; c++) {
                boolean in = c >= t[0] && c <= t[1];
                Due.due("BED " + c, x.cell(c, 0), in ? 0 : 20);
                Due.due("NATURAL " + c, x.cell(c, 1), in ? 200 : 20);
            }
            x.river(t[0], t[1], 200, 0);
            Due.due("BED 200", x.cell(t[1], 0), 200);
            Due.due("NATURAL 0", x.cell(t[0], 1), 0);
            Due.due("HEAP stays", x.cell(t[0], 2), 0);
        }
    }

    private static void riverRefuses() {
        int[][] noCell = {{-1, 0, 5, 5}, {0, -1, 5, 5}, {24, 24, 5, 5}, {0, 24, 5, 5}, {LEAST, 0, 5, 5}, {0, MOST, 5, 5},
            {-1, 24, 5, 5}, {24, 0, 5, 5}, {-1, 0, 201, 5}, {0, 24, 5, -1}, {5, -1, 5, 5}};
        for (int[] n : noCell) {
            Look.refusedDeed("river " + n[0] + " " + n[1], INDEX, Harbours.NEW, x -> x.river(n[0], n[1], n[2], n[3]));
        }
        int[][] none = {{1, 0, 5, 5}, {23, 22, 5, 5}, {23, 0, 5, 5}, {0, 0, -1, 5}, {0, 0, 201, 5}, {0, 0, 5, -1},
            {0, 0, 5, 201}, {0, 23, LEAST, 5}, {0, 23, 5, MOST}, {2, 1, 201, 201}};
        for (int[] n : none) {
            Look.refusedDeed("river " + n[0] + " " + n[1] + " " + n[2] + " " + n[3], ARGUMENT, Harbours.NEW,
                x -> x.river(n[0], n[1], n[2], n[3]));
        }
    }

    /** "IllegalStateException: HOUR is above 0", and what is told ahead of it. */
    private static void riverLater() {
        Supplier<SiltHarbour> oneHour = () -> {
            SiltHarbour x = new SiltHarbour();
            x.hours(1);
            return x;
        };
        for (Supplier<SiltHarbour> made : java.util.List.of(oneHour, Harbours.BUSY, Harbours.LAST)) {
            Look.refusedDeed("river later", STATE, made, x -> x.river(0, 23, 5, 5));
            Look.refusedDeed("a depth is none, later", ARGUMENT, made, x -> x.river(0, 23, 201, 5));
            Look.refusedDeed("the one above the other, later", ARGUMENT, made, x -> x.river(2, 1, 5, 5));
            Look.refusedDeed("no CELL, later", INDEX, made, x -> x.river(24, 1, 201, 5));
        }
        SiltHarbour x = new SiltHarbour();
        x.keep();
        x.hours(0);
        x.river(0, 0, 7, 7);
        Due.due("in HOUR 0 still", x.cell(0, 0), 7);
        x.hours(24);
        Due.thrown("not in HOUR 24", STATE, () -> x.river(0, 0, 9, 9));
        x.again();
        x.river(0, 0, 8, 8);
        Due.due("in HOUR 0 once more", x.cell(0, 0), 8);
    }

    /** The least and the most level, in the first and the last of the 25 hours and between. */
    private static void tideTakes() {
        for (int at = 0; at < 25; at++) {
            SiltHarbour x = new SiltHarbour();
            x.payer();
            x.berth(0, 900, 1, 1);
            x.river(0, 23, 20, 20);
            x.ship(0, 0, 1, 1, 75, 76, false, 0);
            x.tide(at, 60);
            Due.due("80 feet in hour " + at, x.window(0, 0, false), at == 0 ? 25 : at);
            Due.due("not 81", x.window(0, 0, true), -1);
            x.tide(at, 59);
            Due.due("the level told last", x.window(0, 0, false), -1);
        }
        SiltHarbour y = new SiltHarbour();
        y.payer();
        y.berth(0, 900, 1, 1);
        y.river(0, 23, 45, 45);
        y.ship(0, 0, 1, 1, 20, 21, false, 0);
        for (int at = 0; at < 25; at++) {
            y.tide(at, -20);
        }
        Due.due("45 less 20 bears 20 and 5", y.window(0, 0, false), 1);
        Due.due("but not 21 and 5", y.window(0, 0, true), -1);
    }

    private static void tideRefuses() {
        int[][] none = {{-1, 0}, {25, 0}, {LEAST, 0}, {MOST, 0}, {0, -21}, {0, 61}, {24, -21}, {24, 61}, {0, LEAST}, {0, MOST},
            {-1, 61}, {25, -21}};
        for (int[] n : none) {
            Look.refusedDeed("tide " + n[0] + " " + n[1], ARGUMENT, Harbours.NEW, x -> x.tide(n[0], n[1]));
            Look.refusedDeed("tide later " + n[0] + " " + n[1], ARGUMENT, Harbours.BUSY, x -> x.tide(n[0], n[1]));
        }
    }

    /** "RUN from a DAY on": TODAY's to 1250; 0 to 2000. */
    private static void runTakes() {
        SiltHarbour x = new SiltHarbour();
        Due.due("DAY 0, 0", x.run(0, 0), 1);
        Due.due("DAY 1250, 2000", x.run(1250, 2000), 2);
        Due.due("2000 a day", x.run(0, 2000), 3);
        x.hours(24);
        Due.due("of DAY 0 the latest", x.count(14), 2000);
        x.hours(24);
        Due.due("from it on", x.count(14), 4000);
        Due.due("TODAY is 2", x.run(2, 0), 4);
        x.hours(23);
        Due.due("HOUR 71 is of DAY 2", x.run(2, 7), 5);
        x.hours(1);
        Due.due("7 on DAY 2", x.count(14), 4007);
        SiltHarbour last = Harbours.LAST.get();
        Due.due("the last DAY", last.run(1250, 1), 1);
        SiltHarbour y = new SiltHarbour();
        y.run(3, 30);
        y.run(1, 10);
        int[] ran = {0, 10, 20, 50, 80};
        for (int day = 0; day < ran.length; day++) {
            y.hours(24);
            Due.due("behind DAY " + day, y.count(14), ran[day]);
        }
    }

    private static void runRefuses() {
        int[][] none = {{-1, 5}, {1251, 5}, {LEAST, 5}, {MOST, 5}, {0, -1}, {0, 2001}, {0, LEAST}, {0, MOST}, {-1, 2001}};
        for (int[] n : none) {
            Look.refused("run " + n[0] + " " + n[1], ARGUMENT, Harbours.NEW, x -> x.run(n[0], n[1]));
        }
        int[][] later = {{0, 5}, {-1, 5}, {1251, 5}, {1, -1}, {1, 2001}};
        for (int[] n : later) {
            Look.refused("run on DAY 1 " + n[0] + " " + n[1], ARGUMENT, Harbours.BUSY, x -> x.run(n[0], n[1]));
        }
        Look.refused("run on DAY 100 for 99", ARGUMENT, Harbours.OLD, x -> x.run(99, 5));
        Look.refused("run on the last DAY for 1249", ARGUMENT, Harbours.LAST, x -> x.run(1249, 5));
        Look.refused("run on the last DAY for 1251", ARGUMENT, Harbours.LAST, x -> x.run(1251, 5));
    }

    /** "NONE, and it is not told, if there are 40". */
    private static void the40thTelling() {
        SiltHarbour x = new SiltHarbour();
        for (int i = 1; i <= 40; i++) {
            Due.due("telling " + i, x.run(0, i), i);
        }
        Due.due("no 41st", x.run(0, 7), -1);
        Due.due("nor a 42nd", x.run(1, 7), -1);
        x.hours(48);
        Due.due("the 40th counts", x.count(14), 80);
        Look.refused("a 41st", -1, Harbours.FULL_RIVER, y -> y.run(0, 2000));
        Look.refused("a 41st of a later DAY", -1, Harbours.FULL_RIVER, y -> y.run(7, 2000));
        Look.refused("a wrong 41st: RUN", ARGUMENT, Harbours.FULL_RIVER, y -> y.run(0, 2001));
        Look.refused("a wrong 41st: DAY", ARGUMENT, Harbours.FULL_RIVER, y -> y.run(-1, 5));
    }

    /** "A DREDGER, laid up: its number": digs 1 to 500; at most 6. */
    private static void dredgerTakes() {
        SiltHarbour x = new SiltHarbour();
        int[] digs = {1, 500, 250, 2, 499, 500};
        for (int i = 0; i < 6; i++) {
            Due.due("dredger " + i, x.dredger(digs[i]), i);
        }
        x.hours(24);
        Due.due("all are laid up", x.count(23), 480);
        Due.due("none is carried away", x.count(16), 0);
        for (int i = 0; i < 6; i++) {
            Due.due("goes " + i, x.station(i, i, -1), true);
        }
        x.hours(24);
        Due.due("each digs what it can", x.count(16), 1752);
        for (int i = 0; i < 6; i++) {
            int feet = (digs[i] + 49) / 50;
            Due.due("BED " + i, x.cell(i, 0), 20 + feet);
            Due.due("HEAP " + i, x.cell(i, 2), feet * 50 - digs[i]);
        }
    }

    private static void dredgerRefuses() {
        for (int n : new int[] {0, -1, 501, LEAST, MOST}) {
            Look.refused("dredger " + n, ARGUMENT, Harbours.NEW, x -> x.dredger(n));
            Look.refused("dredger " + n + " later", ARGUMENT, Harbours.BUSY, x -> x.dredger(n));
            Look.refused("a wrong 7th dredger " + n, ARGUMENT, Harbours.FULL_RIVER, x -> x.dredger(n));
        }
        for (int n : new int[] {1, 500}) {
            Look.refused("a 7th dredger " + n, FULL, Harbours.FULL_RIVER, x -> x.dredger(n));
        }
    }

    /** "whether one of both is another than before". */
    private static void stationTells() {
        SiltHarbour x = new SiltHarbour();
        x.dredger(10);
        int[][] sent = {{-1, -1, 0}, {0, -1, 1}, {0, -1, 0}, {0, 0, 1}, {0, 0, 0}, {23, 0, 1}, {23, 23, 1}, {23, 23, 0}, {-1, 23, 1},
            {-1, 23, 0}, {-1, -1, 1}, {-1, -1, 0}, {5, 6, 1}, {6, 5, 1}, {5, 6, 1}, {5, 6, 0}};
        for (int[] s : sent) {
            Due.due("station " + s[0] + " " + s[1], x.station(0, s[0], s[1]), s[2] == 1);
        }
        x.hours(24);
        Due.due("the last counts: dug at 5", x.cell(5, 0), 21);
        Due.due("laid in 6", x.cell(6, 2), 10);
    }

    private static void stationRefuses() {
        int[][] none = {{-1, 0, 0}, {2, 0, 0}, {LEAST, 0, 0}, {MOST, 0, 0}, {0, 24, 0}, {0, -2, 0}, {0, LEAST, 0}, {0, MOST, 0},
            {0, 0, 24}, {0, 0, -2}, {0, 5, LEAST}, {0, 5, MOST}, {0, -2, -2}};
        for (int[] n : none) {
            Look.refused("station " + n[0] + " " + n[1] + " " + n[2], INDEX, Harbours.BUSY, x -> x.station(n[0], n[1], n[2]));
        }
        Look.refused("station of none", INDEX, Harbours.NEW, x -> x.station(0, 0, 0));
        Look.refused("station of a 7th", INDEX, Harbours.FULL_RIVER, x -> x.station(6, 0, 0));
        Due.due("of the 6th", Harbours.FULL_RIVER.get().station(5, 3, 4), true);
    }

    private static void cellAnswers() {
        SiltHarbour x = Harbours.BUSY.get();
        for (int c : new int[] {0, 23}) {
            for (int what = 0; what < 4; what++) {
                Due.due("cell " + c + " " + what, x.cell(c, what) >= 0, true);
            }
        }
        for (int c : new int[] {-1, 24, LEAST, MOST}) {
            Look.refused("cell " + c, INDEX, Harbours.BUSY, y -> y.cell(c, 0));
            Due.thrown("no CELL is told first", INDEX, () -> x.cell(c, 4));
        }
        for (int what : new int[] {-1, 4, LEAST, MOST}) {
            Look.refused("cell what " + what, ELEMENT, Harbours.BUSY, y -> y.cell(0, what));
            Due.thrown("what " + what + " of CELL 23", ELEMENT, () -> x.cell(23, what));
        }
    }

    /** "of a CELL, a DAY (0 to TODAY's), a depth (0 to 250)". */
    private static void soundTakes() {
        SiltHarbour x = new SiltHarbour();
        Due.due("the least", x.sound(0, 0, 0), 0);
        Due.due("known 0", x.cell(0, 3), 0);
        Due.due("the most", x.sound(23, 0, 250), 1);
        Due.due("known 250", x.cell(23, 3), 250);
        x.hours(23);
        Due.thrown("DAY 1 is not yet", ARGUMENT, () -> x.sound(0, 1, 5));
        x.hours(1);
        Due.due("DAY 1 is TODAY", x.sound(0, 1, 5), 2);
        Due.due("DAY 0 was", x.sound(0, 0, 6), 3);
        Due.due("of the later DAY", x.cell(0, 3), 5);
        SiltHarbour last = Harbours.LAST.get();
        Due.due("the last DAY", last.sound(0, 1250, 5), 0);
    }

    private static void soundRefuses() {
        int[][] noCell = {{-1, 0, 5}, {24, 0, 5}, {LEAST, 0, 5}, {MOST, 0, 5}, {24, 9, 5}, {-1, 0, 251}};
        for (int[] n : noCell) {
            Look.refused("sound in " + n[0], INDEX, Harbours.BUSY, x -> x.sound(n[0], n[1], n[2]));
        }
        int[][] none = {{0, -1, 5}, {0, 2, 5}, {0, LEAST, 5}, {0, MOST, 5}, {0, 0, -1}, {0, 1, 251}, {0, 0, LEAST}, {0, 0, MOST}};
        for (int[] n : none) {
            Look.refused("sound " + n[1] + " " + n[2], ARGUMENT, Harbours.BUSY, x -> x.sound(n[0], n[1], n[2]));
        }
        Look.refused("sound of tomorrow", ARGUMENT, Harbours.NEW, x -> x.sound(0, 1, 5));
        Look.refused("sound of DAY 1251", ARGUMENT, Harbours.LAST, x -> x.sound(0, 1251, 5));
    }

    /** "NONE, and it is not told, if there are 200". */
    private static void the200thSounding() {
        SiltHarbour x = new SiltHarbour();
        for (int i = 0; i < 200; i++) {
            Due.due("sounding " + i, x.sound(i % 2, 0, i), i);
        }
        Due.due("the 200th counts", x.cell(1, 3), 199);
        Due.due("no 201st", x.sound(1, 0, 7), -1);
        Due.due("it is not told", x.cell(1, 3), 199);
        Due.due("200", x.count(17), 200);
        Look.refused("a 201st", -1, Harbours.FULL_RIVER, y -> y.sound(0, 0, 250));
        Look.refused("a wrong 201st: depth", ARGUMENT, Harbours.FULL_RIVER, y -> y.sound(0, 0, 251));
        Look.refused("a wrong 201st: DAY", ARGUMENT, Harbours.FULL_RIVER, y -> y.sound(0, 1, 5));
        Look.refused("a wrong 201st: CELL", INDEX, Harbours.FULL_RIVER, y -> y.sound(24, 1, 251));
    }

    /** "of those told up to it that of the latest DAY, of several the one told last; NATURAL without one". */
    private static void knownAsOf() {
        SiltHarbour x = new SiltHarbour();
        x.river(3, 3, 10, 15);
        x.sound(3, 0, 40);
        x.hours(24);
        x.sound(3, 1, 41);
        x.hours(6);
        x.sound(3, 0, 42);
        x.hours(6);
        x.sound(3, 1, 43);
        x.sound(3, 1, 44);
        int[][] asOf = {{LEAST, 15}, {-1, 15}, {0, 40}, {1, 40}, {23, 40}, {24, 41}, {29, 41}, {30, 41}, {35, 41}, {36, 44}, {37, 44},
            {MOST, 44}};
        for (int[] a : asOf) {
            Due.due("known as of " + a[0], x.known(3, a[0]), a[1]);
        }
        Due.due("as of now", x.cell(3, 3), 44);
        Due.due("NATURAL, not BED, without one", new SiltHarbour().known(5, 0), 20);
        Due.due("others are as they were", x.known(4, 36), 20);
        for (int c : new int[] {-1, 24, LEAST, MOST}) {
            Look.refused("known " + c, INDEX, Harbours.BUSY, y -> y.known(c, 0));
        }
        Due.due("the first CELL", x.known(0, 0), 20);
        Due.due("the last CELL", x.known(23, 0), 20);
    }
}
