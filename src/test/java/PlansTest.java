/** Promises 31 to 34: bringing in, works, their worth and the best set. */
public final class PlansTest {
    private static final Class<?> ARGUMENT = IllegalArgumentException.class;

    public static void main(String[] args) {
        bringNone();
        bringOne();
        bringInOrderOrNot();
        bringToSeveralBerths();
        bringFirstFour();
        bringByTheTide();
        bringAtTheSameTide();
        bringAsLateAs72();
        bringChangesNothing();
        workNumbers();
        worth();
        notMade();
        best();
        Due.finish("PlansTest");
    }

    private static SiltHarbour withPayer() {
        SiltHarbour x = new SiltHarbour();
        x.payer();
        return x;
    }

    private static void boat(SiltHarbour x, int tons, int length) {
        x.ship(0, 0, tons, length, 5, 5, false, 0);
    }

    private static void bringNone() {
        SiltHarbour x = withPayer();
        Due.due("none waits", x.bring(), 0);
        boat(x, 1, 1);
        Due.due("no berth", x.bring(), -1);
        x.berth(0, 1, 1, 1);
        boat(x, 1, 2);
        Due.due("one is too long", x.bring(), -1);
    }

    private static void bringOne() {
        SiltHarbour x = withPayer();
        x.berth(23, 100, 10, 100);
        boat(x, 11, 100);
        Due.due("in the next hour", x.bring(), 1);
        boat(x, 1, 1);
        // 1 ton holds it for 1 + 3 + 6 hours, 11 tons for 2 + 3 + 6
        Due.due("the short one first", x.bring(), 1 + 11);
        x.hands(0, 0);
        Due.due("pilots are not asked", x.bring(), 12);
    }

    private static void bringInOrderOrNot() {
        SiltHarbour x = withPayer();
        x.berth(0, 100, 1, 100);
        boat(x, 40, 1);
        boat(x, 10, 1);
        boat(x, 1, 1);
        // 7 and 16 hours are held ahead of the one of 46
        Due.due("the sum counts", x.bring(), 1 + 8 + 24);
    }

    private static void bringToSeveralBerths() {
        SiltHarbour x = withPayer();
        x.berth(0, 100, 1, 100);
        x.berth(0, 5, 500, 100);
        boat(x, 30, 100);
        boat(x, 30, 5);
        Due.due("each its own", x.bring(), 2);
        boat(x, 30, 5);
        // at the second berth 30 tons hold it for 7 hours
        Due.due("the third waits for the second", x.bring(), 10);
        x.hours(1);
        Due.due("one is left", x.count(5), 1);
        Due.due("both berths are taken", x.bring(), 24);
    }

    private static void bringFirstFour() {
        SiltHarbour x = withPayer();
        x.berth(0, 100, 500, 100);
        for (int i = 0; i < 4; i++) {
            boat(x, 1, 1);
        }
        Due.due("four", x.bring(), 1 + 8 + 15 + 22);
        boat(x, 1, 900);
        Due.due("a fifth is not asked", x.bring(), 46);
        SiltHarbour y = withPayer();
        y.berth(0, 100, 500, 100);
        boat(y, 9, 900);
        for (int i = 0; i < 4; i++) {
            boat(y, 1, 1);
        }
        Due.due("without a turn line the first that came", y.bring(), -1);
        Due.act(x, 0, "turn long down");
        Due.due("but it is by another turn", x.bring(), -1);
    }

    private static void bringByTheTide() {
        SiltHarbour x = withPayer();
        x.berth(0, 100, 500, 100);
        x.tide(10, 5);
        x.tide(11, 5);
        x.ship(0, 0, 1, 1, 20, 1, false, 0);
        Due.due("high water", x.bring(), 10);
        x.ship(0, 0, 1, 1, 20, 1, false, 0);
        Due.due("the next day's", x.bring(), 10 + 35);
        boat(x, 1, 1);
        Due.due("a shallow one ahead of it", x.bring(), 10 + 35 + 1);
        x.ship(0, 0, 1, 1, 20, 1, false, 0);
        Due.due("a third day's", x.bring(), 10 + 35 + 60 + 1);
        x.hours(0);
        x.sound(0, 0, 19);
        Due.due("too shallow", x.bring(), -1);
        Due.act(x, 0, "clear 4");
        Due.due("less clearance", x.bring(), 106);
    }

    private static void bringAtTheSameTide() {
        SiltHarbour x = withPayer();
        x.berth(0, 100, 500, 100);
        x.tide(0, 20);
        x.ship(0, 0, 1, 1, 30, 1, false, 0);
        Due.due("25 hours from now", x.bring(), 25);
        x.hours(7);
        Due.due("18 from then", x.bring(), 18);
        SiltHarbour y = withPayer();
        y.berth(12, 100, 500, 100);
        y.tide(5, 20);
        y.tide(6, 20);
        y.tide(8, 20);
        y.tide(9, 20);
        y.tide(10, 20);
        y.ship(0, 0, 1, 1, 30, 1, false, 0);
        Due.due("the tide of the hour at each cell", y.bring(), 8);
        y.sound(12, 0, 40);
        Due.due("cell 12 is deeper", y.bring(), 5);
    }

    private static void bringAsLateAs72() {
        SiltHarbour x = withPayer();
        x.berth(0, 100, 1, 100);
        x.tide(22, 20);
        x.ship(0, 0, 65, 1, 30, 1, false, 0);
        boat(x, 65, 1);
        // the tide is at 22, 47 and 72; the other holds the berth for 71 hours
        Due.due("at 72", x.bring(), 73);
        x.ship(0, 0, 1, 1, 5, 1, false, 0);
        Due.due("no room for a third", x.bring(), -1);
        SiltHarbour y = withPayer();
        y.berth(0, 100, 1, 100);
        y.tide(23, 20);
        y.ship(0, 0, 65, 1, 30, 1, false, 0);
        boat(y, 65, 1);
        Due.due("73 is too late", y.bring(), -1);
    }

    private static void bringChangesNothing() {
        SiltHarbour x = withPayer();
        x.berth(3, 100, 1, 100);
        boat(x, 5, 1);
        x.bring();
        Due.due("still waiting", x.led(0, 0), 0);
        Due.due("no one has the berth", x.quay(0, 3), -1);
        Due.due("hour", x.count(0), 0);
    }

    private static void workNumbers() {
        SiltHarbour x = new SiltHarbour();
        int[][] wrongOnes = {{-1, 0, 0, 0}, {1000001, 0, 0, 0}, {0, -1, 0, 0}, {0, 100001, 0, 0}, {0, 0, -1, 0}, {0, 0, 30, 0},
            {0, 0, 0, -1}, {0, 0, 0, 101}};
        for (int[] w : wrongOnes) {
            Due.thrown("a number is none", ARGUMENT, () -> x.work(w[0], w[1], w[2], w[3]));
        }
        for (int i = 1; i <= 6; i++) {
            Due.due("works", x.work(1000000, 100000, 29, 100), i);
        }
        Due.due("no 7th", x.work(0, 0, 0, 0), -1);
        Due.thrown("a wrong 7th", ARGUMENT, () -> x.work(0, 0, 30, 0));
        Due.thrown("worth of -1", ARGUMENT, () -> x.worth(-1, 0));
        Due.thrown("worth of 1000001", ARGUMENT, () -> x.worth(1000001, 0));
        Due.thrown("best of -1", ARGUMENT, () -> x.best(-1));
        Due.thrown("best of 1000001", ARGUMENT, () -> x.best(1000001));
        Due.due("all cash", x.worth(1000000, 0), 1000000);
        Due.due("none is worth it", x.best(1000000), 0);
        firstWorkAlone();
    }

    private static void firstWorkAlone() {
        SiltHarbour x = new SiltHarbour();
        x.work(10, 1, 0, 0);
        Due.due("the first alone", x.best(10), 1);
        x.work(10, 0, 0, 0);
        x.work(0, 0, 5, 0);
        Due.due("and no other", x.best(1000), 1);
        Due.due("worth of it", x.worth(1000, x.best(1000)), 1019);
    }

    private static void worth() {
        SiltHarbour x = new SiltHarbour();
        Due.due("no works", x.worth(7, -1), 7);
        x.work(100, 10, 0, 0);
        Due.due("29 years of 10", x.worth(100, 1), 290);
        Due.due("too little cash", x.worth(99, 1), 99);
        Due.due("others count for nothing", x.worth(100, -2), 100);
        Due.due("nor do they with it", x.worth(100, -1), 290);
        x.work(300, 33, 27, 50);
        Due.due("2 years of 16", x.worth(300, 2), 32);
        Due.due("both: 270 by then is too little", x.worth(100, 3), 290);
        Due.due("and 30 more: 300 of it paid", x.worth(130, 3), 320 - 300 + 32);
        x.work(5, 1000, 29, 0);
        Due.due("made in the last year", x.worth(10, 4), 5);
        x.work(0, 99, 28, 100);
        Due.due("brings nothing at the least", x.worth(10, 8), 10);
    }

    private static void notMade() {
        SiltHarbour x = new SiltHarbour();
        x.work(10, 100, 3, 0);
        x.work(10, 50, 3, 0);
        Due.due("by numbers", x.worth(10, 3), 2600);
        Due.due("the other alone", x.worth(10, 2), 1300);
        Due.due("both", x.worth(20, 3), 3900);
        SiltHarbour y = new SiltHarbour();
        y.work(50, 0, 4, 0);
        y.work(0, 50, 3, 0);
        Due.due("what stands brings first", y.worth(0, 3), 26 * 50 - 50);
        SiltHarbour z = new SiltHarbour();
        z.work(50, 1000, 3, 0);
        z.work(0, 50, 3, 0);
        Due.due("it is never made later", z.worth(0, 3), 26 * 50);
    }

    private static void best() {
        SiltHarbour x = new SiltHarbour();
        x.work(100, 10, 0, 100);
        x.work(100, 10, 0, 0);
        x.work(100, 10, 0, 0);
        Due.due("one of two alike: the least bits", x.best(100), 2);
        Due.due("both", x.best(200), 6);
        Due.due("none", x.best(99), 0);
        SiltHarbour y = new SiltHarbour();
        y.work(29, 1, 0, 0);
        Due.due("no gain: the fewest", y.best(100), 0);
        y.work(28, 1, 0, 0);
        Due.due("a gain of 1", y.best(100), 2);
        SiltHarbour z = new SiltHarbour();
        z.work(0, 1, 0, 0);
        z.work(0, 1, 0, 0);
        z.work(0, 2, 0, 0);
        z.work(58, 0, 1, 0);
        Due.due("all that bring", z.best(0), 7);
        SiltHarbour w = new SiltHarbour();
        w.work(10, 1, 0, 0);
        w.work(10, 1, 0, 0);
        w.work(10, 2, 0, 20);
        w.work(20, 3, 0, 20);
        Due.due("fewer works", w.best(20), 8);
    }
}
