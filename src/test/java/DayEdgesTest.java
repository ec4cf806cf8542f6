/** The boundary cases of the end of a DAY, sentence by sentence: silt, DREDGERS, HEAPS. */
public final class DayEdgesTest {
    public static void main(String[] args) {
        each24thHour();
        theDayThatEnds();
        whatSettles();
        roundedDown();
        fromCell23To0();
        siltGoesByTheBedAheadOfDredging();
        aHeapOf50();
        aBedOf0();
        takenFromTheHeap();
        aBedOf200();
        dredgersByNumbers();
        whereItLays();
        behindAllElse();
        nothingIsLost();
        Due.finish("DayEdgesTest");
    }

    /** What a CELL has, in tons, above its BED at the begin (below: negative). */
    private static int grown(SiltHarbour x, int cell, int bed) {
        return (bed - x.cell(cell, 0)) * 50 + x.cell(cell, 2);
    }

    /** "AT THE END OF A DAY (each 24th HOUR)". */
    private static void each24thHour() {
        SiltHarbour x = new SiltHarbour();
        x.run(0, 100);
        x.dredger(10);
        x.station(0, 0, -1);
        for (int h = 1; h <= 73; h++) {
            x.hours(1);
            Due.due("ran by HOUR " + h, x.count(14), h / 24 * 100);
            Due.due("dug by HOUR " + h, x.count(16), h / 24 * 10);
            Due.due("DAY of HOUR " + h, x.count(1), h / 24);
        }
    }

    /** "what is carried is RUN of that DAY (the one that ends)". */
    private static void theDayThatEnds() {
        SiltHarbour x = new SiltHarbour();
        x.run(0, 1);
        x.run(1, 10);
        x.run(2, 100);
        x.hours(24);
        Due.due("DAY 0", x.count(14), 1);
        x.run(1, 20);
        x.hours(24);
        Due.due("DAY 1", x.count(14), 21);
        x.hours(24);
        Due.due("DAY 2", x.count(14), 121);
        SiltHarbour y = new SiltHarbour();
        y.run(2, 100);
        y.hours(48);
        Due.due("0 ahead of any", y.count(14), 0);
        y.hours(24);
        Due.due("its first DAY", y.count(14), 100);
        SiltHarbour z = new SiltHarbour();
        z.hours(23);
        z.run(0, 100);
        z.hours(1);
        Due.due("told in the last HOUR ahead of its end", z.count(14), 100);
    }

    /** "times 5 and what BED is above NATURAL (0 at least; 60 at most, both together), by 100". */
    private static void whatSettles() {
        int[][] shares = {{0, 200, 5}, {19, 20, 5}, {20, 20, 5}, {21, 20, 6}, {22, 20, 7}, {73, 20, 58}, {74, 20, 59}, {75, 20, 60},
            {76, 20, 60}, {200, 20, 60}, {200, 0, 60}, {1, 0, 6}, {55, 0, 60}, {54, 0, 59}};
        for (int[] s : shares) {
            for (int cell : new int[] {0, 11, 23}) {
                SiltHarbour x = new SiltHarbour();
                x.river(0, 23, 0, 200);
                x.river(cell, cell, s[0], s[1]);
                x.run(0, 2000);
                x.hours(24);
                int carried = 2000;
                for (int c = 23; c > cell; c--) {
                    carried -= carried * 5 / 100;
                }
                Due.due("BED " + s[0] + " NATURAL " + s[1] + " CELL " + cell, grown(x, cell, s[0]), carried * s[2] / 100);
            }
        }
    }

    private static void roundedDown() {
        int[][] runs = {{0, 0}, {1, 0}, {19, 0}, {20, 1}, {21, 1}, {39, 1}, {40, 2}, {1999, 99}, {2000, 100}};
        for (int[] r : runs) {
            SiltHarbour x = new SiltHarbour();
            x.run(0, r[0]);
            x.hours(24);
            Due.due("5 hundredths of " + r[0], grown(x, 23, 20), r[1]);
            Due.due("ran " + r[0], x.count(14), r[0]);
        }
        SiltHarbour y = new SiltHarbour();
        y.run(0, 19);
        y.hours(24);
        Due.due("too little to settle: all to the SEA", y.count(15), 19);
        Due.due("no HEAP", y.count(22), 0);
    }

    /** "from CELL 23 down to 0 .. what is left goes on to the next CELL, behind 0 to the SEA". */
    private static void fromCell23To0() {
        SiltHarbour x = new SiltHarbour();
        x.river(0, 23, 100, 100);
        x.run(0, 900);
        x.hours(24);
        int carried = 900;
        for (int c = 23; c >= 0; c--) {
            int settles = carried * 5 / 100;
            Due.due("HEAP of " + c, x.cell(c, 2), settles);
            carried -= settles;
        }
        Due.due("to the SEA", x.count(15), carried);
        x.hours(24);
        Due.due("of two days", x.count(15), 2 * carried);
    }

    /** (a) is ahead of (b): silt goes by the BED as it was. */
    private static void siltGoesByTheBedAheadOfDredging() {
        SiltHarbour x = new SiltHarbour();
        x.run(0, 1000);
        x.dredger(500);
        x.station(0, 23, -1);
        x.hours(24);
        Due.due("50 settled, 500 were dug: BED", x.cell(23, 0), 29);
        Due.due("HEAP", x.cell(23, 2), 0);
        x.hours(24);
        Due.due("14 of 100 by then: BED", x.cell(23, 0), 37);
        Due.due("14 of 100 by then: HEAP", x.cell(23, 2), 40);
    }

    /** "as long as HEAP is 50 or more, and BED above 0, HEAP is 50 less and BED 1 less". */
    private static void aHeapOf50() {
        int[][] laid = {{49, 20, 49}, {50, 19, 0}, {51, 19, 1}, {99, 19, 49}, {100, 18, 0}, {499, 11, 49}, {500, 10, 0}};
        for (int[] l : laid) {
            SiltHarbour x = new SiltHarbour();
            x.dredger(l[0]);
            x.station(0, 0, 9);
            x.hours(24);
            Due.due("BED with " + l[0], x.cell(9, 0), l[1]);
            Due.due("HEAP with " + l[0], x.cell(9, 2), l[2]);
        }
        SiltHarbour y = new SiltHarbour();
        y.run(0, 980);
        y.hours(24);
        Due.due("silt of 49: BED", y.cell(23, 0), 20);
        Due.due("silt of 49: HEAP", y.cell(23, 2), 49);
        y.run(1, 20);
        y.hours(24);
        Due.due("one more: BED", y.cell(23, 0), 19);
        Due.due("one more: HEAP", y.cell(23, 2), 0);
    }

    private static void aBedOf0() {
        for (int bed = 0; bed <= 3; bed++) {
            SiltHarbour x = new SiltHarbour();
            x.river(9, 9, bed, 0);
            x.dredger(120);
            x.station(0, 0, 9);
            x.hours(24);
            int feet = Math.min(bed, 2);
            Due.due("BED from " + bed, x.cell(9, 0), bed - feet);
            Due.due("HEAP over BED " + bed, x.cell(9, 2), 120 - 50 * feet);
        }
        SiltHarbour y = new SiltHarbour();
        y.river(9, 9, 0, 0);
        y.dredger(120);
        y.station(0, 0, 9);
        y.hours(48);
        Due.due("it grows on", y.cell(9, 2), 240);
        y.station(0, 9, -1);
        y.hours(24);
        Due.due("and is dug first: HEAP", y.cell(9, 2), 120);
        Due.due("and is dug first: BED", y.cell(9, 0), 0);
        Due.due("all HEAPS", y.count(22), 120 + y.cell(0, 2));
    }

    /** "takes what it digs from its HEAP; as long as HEAP is below 0 and BED below 200, BED is 1 and HEAP 50 more". */
    private static void takenFromTheHeap() {
        int[][] digs = {{29, 20, 1}, {30, 20, 0}, {31, 21, 49}, {80, 21, 0}, {81, 22, 49}, {500, 30, 30}};
        for (int[] d : digs) {
            SiltHarbour x = new SiltHarbour();
            x.run(0, 600);
            x.dredger(d[0]);
            x.station(0, 23, -1);
            x.hours(24);
            Due.due("a HEAP of 30 less " + d[0] + ": BED", x.cell(23, 0), d[1]);
            Due.due("a HEAP of 30 less " + d[0] + ": HEAP", x.cell(23, 2), d[2]);
            Due.due("all of it away", x.count(16), d[0]);
        }
    }

    /** "if HEAP is below 0 still, it took so much less, and HEAP is 0". */
    private static void aBedOf200() {
        int[][] digs = {{200, 1, 0, 0}, {199, 49, 1, 49}, {199, 50, 0, 50}, {199, 51, 0, 50}, {199, 500, 0, 50}, {198, 99, 1, 99},
            {198, 100, 0, 100}, {198, 101, 0, 100}, {190, 500, 0, 500}, {191, 500, 0, 450}};
        for (int[] d : digs) {
            SiltHarbour x = new SiltHarbour();
            x.river(4, 4, d[0], 200);
            x.dredger(d[1]);
            x.station(0, 4, -1);
            x.hours(24);
            String name = d[1] + " at BED " + d[0];
            Due.due(name + ": BED", x.cell(4, 0), d[0] + (d[3] + 49) / 50);
            Due.due(name + ": HEAP", x.cell(4, 2), d[2]);
            Due.due(name + ": took", x.count(16), d[3]);
            SiltHarbour y = new SiltHarbour();
            y.river(4, 4, d[0], 200);
            y.river(5, 5, 0, 0);
            y.dredger(d[1]);
            y.station(0, 4, 5);
            y.hours(24);
            Due.due(name + ": laid no more than it took", y.cell(5, 2), d[3]);
        }
    }

    /** "DREDGERS, by numbers". */
    private static void dredgersByNumbers() {
        SiltHarbour x = new SiltHarbour();
        x.river(8, 8, 200, 200);
        x.dredger(100);
        x.dredger(500);
        x.station(0, 7, 8);
        x.station(1, 8, -1);
        x.hours(24);
        Due.due("1 takes what 0 laid", x.count(16), 100);
        Due.due("BED 200", x.cell(8, 0), 200);
        SiltHarbour y = new SiltHarbour();
        y.river(8, 8, 200, 200);
        y.dredger(500);
        y.dredger(100);
        y.station(1, 7, 8);
        y.station(0, 8, -1);
        y.hours(24);
        Due.due("0 finds none", y.count(16), 0);
        Due.due("what 1 laid is there", y.cell(8, 0), 198);
        SiltHarbour z = new SiltHarbour();
        z.river(8, 8, 199, 200);
        z.dredger(30);
        z.dredger(30);
        z.station(0, 8, 1);
        z.station(1, 8, 2);
        z.hours(24);
        Due.due("two at one CELL: 0 takes 30", z.cell(1, 2), 30);
        Due.due("1 takes the 20 that are left", z.cell(2, 2), 20);
    }

    /** "comes to the HEAP of the CELL where it lays, if any": carried away otherwise. */
    private static void whereItLays() {
        for (int lays : new int[] {-1, 0, 5, 23}) {
            SiltHarbour x = new SiltHarbour();
            x.dredger(40);
            x.station(0, 7, lays);
            x.hours(24);
            Due.due("away", x.count(16), lays == -1 ? 40 : 0);
            for (int c = 0; c < 24; c++) {
                Due.due("laid in " + lays + ", CELL " + c, grown(x, c, 20), c == 7 ? -40 : c == lays ? 40 : 0);
            }
        }
        SiltHarbour y = new SiltHarbour();
        y.dredger(40);
        y.station(0, -1, 5);
        y.hours(24);
        Due.due("one that is laid up lays none", y.cell(5, 2), 0);
        SiltHarbour z = new SiltHarbour();
        z.river(7, 7, 200, 200);
        z.dredger(40);
        z.station(0, 7, 7);
        z.run(0, 600);
        z.hours(24);
        Due.due("what it lays where it digs is there again", z.cell(7, 0), 200);
        Due.due("none is away", z.count(16), 0);
    }

    /** The end of a DAY is behind all else of its HOUR: a ship that begins its way in HOUR 24 finds the old BED. */
    private static void behindAllElse() {
        SiltHarbour x = new SiltHarbour();
        x.payer();
        x.berth(0, 100, 100, 100);
        x.river(0, 0, 20, 100);
        x.dredger(50);
        x.station(0, 1, 0);
        x.hours(23);
        x.ship(0, 0, 5, 5, 20, 20, false, 0);
        x.hours(1);
        Due.due("in HOUR 24", x.led(0, 4), 24);
        Due.due("the BED is 19 by now", x.cell(0, 0), 19);
        Due.due("it did not touch", x.led(0, 8), 0);
        x.hours(1);
        Due.due("gone in HOUR 25", x.led(0, 5), 25);
        Due.due("then it did", x.led(0, 8), 1);
    }

    private static void nothingIsLost() {
        SiltHarbour x = new SiltHarbour();
        x.river(3, 6, 90, 20);
        x.river(12, 12, 1, 20);
        x.run(0, 777);
        for (int i = 0; i < 6; i++) {
            x.dredger(33 * i + 1);
            x.station(i, 4 * i, i % 2 == 0 ? -1 : 12);
        }
        int beds = x.count(23);
        for (int day = 0; day < 30; day++) {
            x.hours(24);
            int there = (beds - x.count(23)) * 50 + x.count(22) + x.count(15) + x.count(16);
            Due.due("all that ran is somewhere on day " + day, there, x.count(14));
        }
    }
}
