import java.util.function.Supplier;

/** The boundary cases of promises 31 to 34, sentence by sentence: BRINGING IN, WORKS, WORTH, BEST. */
public final class PlanEdgesTest {
    private static final Class<?> ARGUMENT = IllegalArgumentException.class;
    private static final int LEAST = Integer.MIN_VALUE;
    private static final int MOST = Integer.MAX_VALUE;

    public static void main(String[] args) {
        noneWaits();
        noWay();
        oneHourTo72();
        holdsTheBerth();
        noneOtherHasIt();
        takenNow();
        theFirstFour();
        asOfHour();
        leastOfAllWays();
        byTheNextTide();
        bringChangesNothing();
        workTakes();
        workRefuses();
        worthTakes();
        worthYearByYear();
        spans();
        noCashForIt();
        sets();
        bestOfSeveral();
        Due.finish("PlanEdgesTest");
    }

    private static SiltHarbour withBerth(int cell, int length, int crane) {
        SiltHarbour x = new SiltHarbour();
        x.payer();
        x.berth(cell, length, crane, 50000);
        return x;
    }

    private static int boat(SiltHarbour x, int tons) {
        return x.ship(0, 0, tons, 50, 5, 5, false, 0);
    }

    /** "LEAST (0 if none waits)". */
    private static void noneWaits() {
        Due.due("no BERTH, no SHIP", new SiltHarbour().bring(), 0);
        SiltHarbour x = withBerth(13, 100, 10);
        Due.due("no SHIP", x.bring(), 0);
        boat(x, 15);
        int[] bring = {1, 0, 0, 0, 0, 0, 0};
        for (int h = 0; h < bring.length; h++) {
            Due.due("in HOUR " + h + ", STATE " + x.led(0, 0), x.bring(), bring[h]);
            x.hours(1);
        }
        Due.due("it is GONE", x.led(0, 0), 4);
    }

    /** "none, if there is no way". */
    private static void noWay() {
        SiltHarbour x = new SiltHarbour();
        x.payer();
        boat(x, 1);
        Due.due("no BERTH", x.bring(), -1);
        x.berth(0, 49, 1, 1);
        Due.due("too short", x.bring(), -1);
        x.berth(0, 50, 1, 1);
        Due.due("LONG enough", x.bring(), 1);
        x.ship(0, 0, 1, 51, 5, 5, false, 0);
        Due.due("one of two is too long", x.bring(), -1);
        SiltHarbour y = withBerth(11, 100, 10);
        y.ship(0, 0, 1, 50, 15, 80, false, 0);
        Due.due("20 bears 15 and 5", y.bring(), 1);
        y.sound(11, 0, 19);
        Due.due("19 does not", y.bring(), -1);
        y.sound(11, 0, 20);
        y.sound(12, 0, 0);
        Due.due("a CELL above it is not asked", y.bring(), 1);
        Due.act(y, 0, "clear 6");
        Due.due("nor 20 by a CLEARANCE of 6", y.bring(), -1);
        Due.act(y, 0, "clear 4");
        y.sound(0, 0, 19);
        Due.due("19 by 4", y.bring(), 1);
    }

    /** "at an hour of the next 72 (HOUR and 1 to 72)". */
    private static void oneHourTo72() {
        for (int tide = 0; tide < 25; tide++) {
            SiltHarbour x = withBerth(0, 100, 10);
            x.tide(tide, 1);
            x.ship(0, 0, 1, 50, 16, 5, false, 0);
            Due.due("the tide of " + tide, x.bring(), tide == 0 ? 25 : tide);
            x.hours(tide == 0 ? 24 : tide - 1);
            Due.due("an HOUR ahead of it", x.bring(), 1);
            x.hands(0, 0);
            x.hours(1);
            Due.due("in that HOUR: the next one's", x.bring(), 25);
        }
        // a ship that needs the tide behind one that holds the BERTH until 71, 72, 73
        for (int tons = 63; tons <= 67; tons++) {
            for (int tide = 21; tide <= 23; tide++) {
                SiltHarbour x = withBerth(0, 100, 1);
                x.tide(tide, 1);
                x.ship(0, 0, 100, 50, 16, 5, false, 0);
                boat(x, tons);
                int at = tide + 50;
                boolean can = at <= 72 && 1 + tons + 6 <= at;
                Due.due(tons + " TONS ahead of the tide of " + at, x.bring(), can ? 1 + at : -1);
            }
        }
        SiltHarbour y = withBerth(0, 100, 1);
        boat(y, 65);
        boat(y, 65);
        Due.due("the other begins at 72", y.bring(), 73);
        SiltHarbour z = withBerth(0, 100, 1);
        boat(z, 66);
        boat(z, 66);
        Due.due("73 is too late", z.bring(), -1);
        boat(z, 1);
        Due.due("for three, too", z.bring(), -1);
    }

    /** "so many hours as TONS by CRANE, rounded up, the hours of the way (CELL by 6, rounded down) and 6 together". */
    private static void holdsTheBerth() {
        for (int cell : new int[] {0, 5, 6, 11, 12, 17, 18, 23}) {
            for (int tons : new int[] {1, 9, 10, 11, 20, 21}) {
                SiltHarbour x = withBerth(cell, 100, 10);
                boat(x, tons);
                boat(x, tons);
                int hold = (tons + 9) / 10 + cell / 6 + 6;
                Due.due(tons + " TONS at CELL " + cell, x.bring(), 1 + 1 + hold);
            }
        }
    }

    /** "none other has it in these": the hour behind them is free. */
    private static void noneOtherHasIt() {
        for (int tons = 1; tons <= 12; tons++) {
            SiltHarbour x = withBerth(0, 100, 1);
            x.tide(10, 1);
            x.ship(0, 0, 1, 50, 16, 5, false, 0);
            boat(x, tons);
            // either it goes first, and is done by 10, or behind the other, which holds the BERTH from 10 to 16
            int want = 1 + tons + 6 <= 10 ? 10 + 1 : 10 + 17;
            Due.due(tons + " TONS beside the tide of 10", x.bring(), want);
        }
        SiltHarbour y = withBerth(0, 100, 1);
        y.berth(0, 100, 1, 1);
        boat(y, 60);
        boat(y, 60);
        Due.due("two at two BERTHS in one hour", y.bring(), 2);
    }

    /** "a BERTH that is taken now is free from HOUR and 24 on". */
    private static void takenNow() {
        SiltHarbour x = withBerth(23, 100, 10);
        boat(x, 500);
        x.hours(1);
        boat(x, 1);
        Due.due("one is coming to it", x.bring(), 24);
        x.hours(3);
        Due.due("one is there", x.led(0, 0), 2);
        Due.due("24 from then", x.bring(), 24);
        x.tide(3, 1);
        x.tide(4, 1);
        x.tide(5, 1);
        x.tide(6, 1);
        x.ship(0, 0, 1, 50, 16, 5, false, 0);
        // HOUR 4: the tide of 28 begins in 24 hours, that of 53 in 49; a ship holds the BERTH for 10 hours
        Due.due("just in 24 hours", x.bring(), 24 + 34);
        x.hours(1);
        Due.due("an HOUR later it is a tide too late", x.bring(), 24 + 48);
        SiltHarbour y = withBerth(0, 100, 10);
        y.berth(0, 100, 10, 50000);
        boat(y, 500);
        y.hours(1);
        boat(y, 1);
        Due.due("another BERTH is free", y.bring(), 1);
        boat(y, 1);
        Due.due("twice there", y.bring(), 1 + 8);
        boat(y, 1);
        boat(y, 1);
        Due.due("four: 1, 8, 15 there, 22 is ahead of 24", y.bring(), 1 + 8 + 15 + 22);
    }

    /** "the SHIPS that wait (the first 4 in their TURN)". */
    private static void theFirstFour() {
        SiltHarbour x = withBerth(0, 100, 500);
        int sum = 0;
        for (int n = 1; n <= 6; n++) {
            boat(x, 1);
            sum += n <= 4 ? 1 + 7 * (n - 1) : 0;
            Due.due(n + " SHIPS", x.bring(), sum);
        }
        for (int turn = 0; turn < 5; turn++) {
            SiltHarbour y = withBerth(0, 100, 500);
            for (int i = 0; i < 5; i++) {
                y.ship(0, 0, 1 + i, i == turn ? 101 : 50, 5, 5, false, 0);
            }
            Due.due("one too long, number " + turn, y.bring(), turn < 4 ? -1 : 46);
            Due.act(y, 0, "turn tons down");
            Due.due("the other way round", y.bring(), turn > 0 ? -1 : 46);
        }
    }

    /** "in which the way in is SAFE as of HOUR": by what is known, and by the ACT of TODAY. */
    private static void asOfHour() {
        SiltHarbour x = withBerth(0, 100, 500);
        Due.act(x, 0, "clear 10");
        Due.act(x, 1, "clear 5");
        x.ship(0, 0, 1, 50, 15, 5, false, 0);
        x.hours(23);
        Due.due("by TODAY's CLEARANCE, not tomorrow's", x.bring(), -1);
        x.hands(0, 0);
        x.hours(1);
        Due.due("by TODAY's", x.bring(), 1);
        x.sound(0, 1, 19);
        Due.due("by what is known now", x.bring(), -1);
        SiltHarbour y = withBerth(23, 100, 500);
        y.hands(0, 0);
        y.ship(0, 0, 1, 50, 15, 5, false, 0);
        for (int h = 0; h < 25; h++) {
            y.tide(h, -1);
        }
        for (int h : new int[] {3, 4, 5, 7, 8, 9, 10}) {
            y.tide(h, 0);
        }
        Due.due("the tide of the hour at each CELL", y.bring(), 7);
        y.hours(5);
        Due.due("from then", y.bring(), 2);
        y.hours(20);
        Due.due("in HOUR 25", y.bring(), 7);
        SiltHarbour last = Harbours.LAST.get();
        Due.due("behind the last HOUR", last.bring(), 24);
    }

    /** "of all ways to bring all of them in: LEAST". */
    private static void leastOfAllWays() {
        SiltHarbour x = withBerth(0, 100, 1);
        for (int tons : new int[] {20, 1, 10, 5}) {
            boat(x, tons);
        }
        Due.due("the short ones first: 1, 8, 19, 35", x.bring(), 63);
        x.berth(0, 100, 1, 1);
        Due.due("at two BERTHS: 1, 1, 8, 12", x.bring(), 22);
        x.berth(0, 100, 1, 1);
        Due.due("at three", x.bring(), 3 + 8);
        x.berth(0, 100, 1, 1);
        Due.due("at four", x.bring(), 4);
        x.berth(0, 100, 1, 1);
        Due.due("at five", x.bring(), 4);
        SiltHarbour y = withBerth(0, 40, 1);
        y.berth(0, 100, 500, 1);
        y.ship(0, 0, 60, 40, 5, 5, false, 0);
        y.ship(0, 0, 60, 41, 5, 5, false, 0);
        y.ship(0, 0, 60, 41, 5, 5, false, 0);
        Due.due("two are too long for the first", y.bring(), 1 + 1 + 8);
        y.ship(0, 0, 60, 40, 5, 5, false, 0);
        Due.due("the fourth at the quicker one", y.bring(), 1 + 1 + 8 + 15);
        SiltHarbour z = withBerth(0, 100, 1);
        z.berth(0, 100, 500, 1);
        z.ship(0, 0, 60, 40, 15, 5, false, 0);
        z.ship(0, 0, 60, 40, 15, 5, false, 0);
        z.ship(0, 0, 60, 40, 15, 5, false, 0);
        Due.due("one at the slow, two at the quick", z.bring(), 1 + 1 + 8);
    }

    /** Ships that need the tide go by it, others between. */
    private static void byTheNextTide() {
        SiltHarbour x = withBerth(0, 100, 1);
        x.tide(3, 1);
        for (int i = 0; i < 3; i++) {
            x.ship(0, 0, 1, 50, 16, 5, false, 0);
        }
        Due.due("3, 28, 53", x.bring(), 84);
        x.ship(0, 0, 1, 50, 15, 5, false, 0);
        Due.due("and one between, at 10", x.bring(), 94);
        SiltHarbour y = withBerth(0, 100, 1);
        y.tide(3, 1);
        for (int i = 0; i < 4; i++) {
            y.ship(0, 0, 1, 50, 16, 5, false, 0);
        }
        Due.due("a fourth tide is too late", y.bring(), -1);
        y.berth(0, 100, 1, 1);
        Due.due("but not at two BERTHS: 3, 3, 28, 28", y.bring(), 62);
    }

    /** "PLANS (nothing changes by them)"; "PILOTS are not asked". */
    private static void bringChangesNothing() {
        Look.refused("bring of a busy harbour", Harbours.BUSY.get().bring(), Harbours.BUSY, x -> x.bring());
        Look.refused("bring of a full one", Harbours.FULL_PORT.get().bring(), Harbours.FULL_PORT, x -> x.bring());
        SiltHarbour x = withBerth(0, 100, 1);
        x.hands(0, 0);
        boat(x, 1);
        Due.due("without PILOTS", x.bring(), 1);
        x.hours(9);
        Due.due("it waits", x.bring(), 1);
    }

    /** Costs 0 to 1000000, brings 0 to 100000, YEAR 0 to 29, hundredths 0 to 100; at most 6. */
    private static void workTakes() {
        SiltHarbour x = new SiltHarbour();
        int[][] taken = {{0, 0, 0, 0}, {1000000, 100000, 29, 100}, {1000000, 0, 0, 0}, {0, 100000, 0, 0}, {0, 0, 29, 0}, {0, 0, 0, 100}};
        for (int i = 0; i < 6; i++) {
            int[] t = taken[i];
            Due.due("work " + i, x.work(t[0], t[1], t[2], t[3]), i + 1);
        }
        Due.due("no 7th", x.work(0, 1, 0, 0), -1);
        Due.due("nor later", x.work(0, 1, 0, 0), -1);
        int[] worth = {1000000, 0, 0, 1000000 + 29 * 100000, 1000000, 1000000};
        for (int i = 0; i < 6; i++) {
            Due.due("WORTH of " + i, x.worth(1000000, 1 << i), worth[i]);
        }
    }

    private static void workRefuses() {
        int[][] none = {{-1, 0, 0, 0}, {1000001, 0, 0, 0}, {0, -1, 0, 0}, {0, 100001, 0, 0}, {0, 0, -1, 0}, {0, 0, 30, 0}, {0, 0, 0, -1}, {0, 0, 0, 101},
            {LEAST, 0, 0, 0}, {MOST, 0, 0, 0}, {0, LEAST, 0, 0}, {0, MOST, 0, 0}, {0, 0, LEAST, 0}, {0, 0, MOST, 0}, {0, 0, 0, LEAST}, {0, 0, 0, MOST}};
        for (Supplier<SiltHarbour> made : java.util.List.of(Harbours.NEW, Harbours.BUSY, Harbours.FULL_PURSE)) {
            for (int[] n : none) {
                Look.refused("work " + n[0] + " " + n[1] + " " + n[2] + " " + n[3], ARGUMENT, made, x -> x.work(n[0], n[1], n[2], n[3]));
            }
        }
        Look.refused("a 7th work", -1, Harbours.FULL_PURSE, x -> x.work(0, 1000, 0, 0));
    }

    /** "from so much CASH (0 to 1000000)"; the board's own CASH is not asked. */
    private static void worthTakes() {
        SiltHarbour x = new SiltHarbour();
        x.cash(777);
        x.work(5, 1, 0, 0);
        Due.due("0", x.worth(0, 0), 0);
        Due.due("1000000", x.worth(1000000, 0), 1000000);
        Due.due("BEST of 0", x.best(0), 0);
        Due.due("BEST of 1000000", x.best(1000000), 1);
        for (int cash : new int[] {-1, 1000001, LEAST, MOST}) {
            for (Supplier<SiltHarbour> made : java.util.List.of(Harbours.NEW, Harbours.BUSY)) {
                Look.refused("worth of " + cash, ARGUMENT, made, y -> y.worth(cash, 0));
                Look.refused("best of " + cash, ARGUMENT, made, y -> y.best(cash));
            }
        }
        Look.refused("worth changes nothing", Harbours.BUSY.get().worth(100, 3), Harbours.BUSY, y -> y.worth(100, 3));
        Look.refused("best changes nothing", Harbours.BUSY.get().best(100), Harbours.BUSY, y -> y.best(100));
        x.hours(120);
        Due.due("whatever HOUR it is", x.worth(5, 1), 29);
        Due.due("CASH is as it was", x.count(10), 777);
    }

    /** "each YEAR from the one behind its making on .. over 30 YEARS". */
    private static void worthYearByYear() {
        for (int year = 0; year < 30; year++) {
            SiltHarbour x = new SiltHarbour();
            x.work(7, 10, year, 0);
            Due.due("made in YEAR " + year, x.worth(7, 1), 10 * (29 - year));
            Due.due("BEST", x.best(7), 10 * (29 - year) > 7 ? 1 : 0);
            x.work(0, 1000, 0, 0);
            Due.due("beside another", x.worth(0, 3), 29000 + (year == 0 ? 0 : 10 * (29 - year) - 7));
        }
    }

    /** "brings may be by so many hundredths (0 to 100) less": its least. */
    private static void spans() {
        int[][] cases = {{100, 0, 100}, {100, 1, 99}, {100, 99, 1}, {100, 100, 0}, {100000, 0, 100000}, {100000, 50, 50000}, {100000, 99, 1000}, {100000, 100, 0},
            {0, 0, 0}, {0, 100, 0}, {200, 25, 150}, {1, 100, 0}, {1, 0, 1}};
        for (int[] c : cases) {
            SiltHarbour x = new SiltHarbour();
            x.work(0, c[0], 28, c[1]);
            Due.due(c[0] + " by " + c[1] + " hundredths less", x.worth(0, 1), c[2]);
            x.work(0, c[0], 0, c[1]);
            Due.due("29 times", x.worth(0, 2), 29 * c[2]);
        }
    }

    /** "one that there is no CASH for is never made". */
    private static void noCashForIt() {
        for (int cash = 9; cash <= 11; cash++) {
            SiltHarbour x = new SiltHarbour();
            x.work(10, 1, 3, 0);
            Due.due("10 of " + cash, x.worth(cash, 1), cash < 10 ? cash : cash - 10 + 26);
        }
        SiltHarbour y = new SiltHarbour();
        y.work(60, 5, 3, 0);
        y.work(50, 7, 3, 0);
        y.work(40, 9, 3, 0);
        Due.due("by numbers: 60, then 40 of 100", y.worth(100, 7), 26 * 5 + 26 * 9);
        Due.due("99: 60 alone", y.worth(99, 7), 39 + 26 * 5);
        Due.due("59: 50 alone", y.worth(59, 7), 9 + 26 * 7);
        SiltHarbour z = new SiltHarbour();
        z.work(30, 100, 2, 0);
        z.work(0, 15, 0, 0);
        Due.due("what stands brings first: 30 by YEAR 2", z.worth(0, 3), 29 * 15 - 30 + 27 * 100);
        SiltHarbour w = new SiltHarbour();
        w.work(31, 100, 2, 0);
        w.work(0, 15, 0, 0);
        Due.due("1 too little, and never later", w.worth(0, 3), 29 * 15);
        SiltHarbour v = new SiltHarbour();
        v.work(10, 100, 5, 0);
        v.work(0, 10, 5, 0);
        Due.due("it brings from the YEAR behind on", v.worth(0, 3), 24 * 10);
        Due.due("in the other order, too", v.worth(10, 3), 24 * 110);
    }

    /** "WORTH of a set of WORKS (bits; others count for nothing)". */
    private static void sets() {
        SiltHarbour x = new SiltHarbour();
        Due.due("no WORKS", x.worth(5, MOST), 5);
        Due.due("no WORKS, all bits", x.worth(5, -1), 5);
        for (int i = 0; i < 6; i++) {
            x.work(0, 1 << i, 28, 0);
            int all = (2 << i) - 1;
            Due.due("all of " + (i + 1), x.worth(0, all), all);
            Due.due("others count for nothing", x.worth(0, -1), all);
            Due.due("others alone", x.worth(0, ~all), 0);
        }
        for (int set = 0; set < 64; set++) {
            Due.due("set " + set, x.worth(0, set), set);
            Due.due("set " + set + " and others", x.worth(0, set | LEAST | 64), set);
        }
        Due.due("all are BEST", x.best(0), 63);
    }

    /** "the set of the greatest WORTH, of several that of the fewest WORKS, then the least bits". */
    private static void bestOfSeveral() {
        Due.due("no WORKS", new SiltHarbour().best(5), 0);
        SiltHarbour x = new SiltHarbour();
        x.work(0, 0, 0, 0);
        Due.due("0 for 0: the fewest", x.best(5), 0);
        x.work(29, 1, 0, 0);
        Due.due("29 for 29", x.best(100), 0);
        x.work(28, 1, 0, 0);
        Due.due("29 for 28", x.best(100), 4);
        x.work(28, 1, 0, 0);
        Due.due("both of these", x.best(100), 12);
        Due.due("one of these: the least bits", x.best(55), 4);
        Due.due("and both once more", x.best(56), 12);
        SiltHarbour y = new SiltHarbour();
        y.work(10, 1, 0, 0);
        y.work(10, 1, 0, 0);
        y.work(20, 2, 0, 0);
        Due.due("the third alone is the fewest", y.best(20), 4);
        Due.due("10: the first", y.best(10), 1);
        Due.due("40: all", y.best(40), 7);
        Due.due("30: the first and the third", y.best(30), 5);
        SiltHarbour z = new SiltHarbour();
        z.work(1000000, 100000, 0, 0);
        z.work(1000000, 100000, 1, 0);
        z.work(1000000, 100000, 10, 0);
        Due.due("one pays for the third", z.best(1000000), 5);
        z.work(0, 0, 29, 0);
        z.work(5, 0, 29, 0);
        z.work(0, 100000, 29, 0);
        Due.due("those that bring none are not in it", z.best(1000000), 5);
    }
}
