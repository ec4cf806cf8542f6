import java.util.List;
import java.util.function.Supplier;

/** The boundary cases of promises 36 to 38, sentence by sentence: THE IMAGE and counts. */
public final class ImageEdgesTest {
    public static void main(String[] args) {
        noneWasKept();
        keepChangesNothing();
        allComesBack();
        fullOnesComeBack();
        allGoesOnFromThere();
        whatWasSaidComesBack();
        nothingOfWhatIsNoMore();
        ranksComeBack();
        soundingsComeBack();
        oneImage();
        theImageItselfStays();
        notTheTape();
        notTheFault();
        backToTheBegin();
        countsOfAnotherWhat();
        countsStep();
        countsOfFullOnes();
        refusedCallsLeaveTheImage();
        Due.finish("ImageEdgesTest");
    }

    private static final List<Supplier<SiltHarbour>> ALL = List.of(Harbours.NEW, Harbours.BUSY, Harbours.OLD, Harbours.LAST, Harbours.FULL_PORT,
        Harbours.FULL_LAWS, Harbours.TWENTY_ACTS, Harbours.FULL_PURSE, Harbours.PAID, Harbours.FULL_RIVER);

    /** "false, and nothing happens, if none was kept". */
    private static void noneWasKept() {
        Look.refused("again of a new one", false, Harbours.NEW, x -> x.again());
        for (Supplier<SiltHarbour> made : List.of(Harbours.LAST, Harbours.FULL_PORT, Harbours.FULL_LAWS, Harbours.FULL_PURSE, Harbours.FULL_RIVER)) {
            Look.refused("again without an IMAGE", false, made, x -> x.again());
        }
    }

    private static SiltHarbour kept(Supplier<SiltHarbour> made) {
        SiltHarbour x = made.get();
        x.keep();
        return x;
    }

    /** "THE IMAGE is kept": all goes on as it would have gone, but for what again() answers. */
    private static void keepChangesNothing() {
        for (Supplier<SiltHarbour> made : ALL) {
            List<String> without = withoutGoingBack(Look.of(made));
            Look.same("kept", withoutGoingBack(Look.of(() -> kept(made))), without);
        }
    }

    private static List<String> withoutGoingBack(List<String> answers) {
        return answers.stream().filter(a -> !a.startsWith("gone back")).toList();
    }

    /** Something else of every kind, as far as there is room; what is refused does not matter. */
    private static void changeAll(SiltHarbour x) {
        int day = x.count(1);
        for (int h = 0; h < 25; h += 3) {
            x.tide(h, h % 4);
        }
        attempt(() -> x.river(2, 20, 33, 44));
        attempt(() -> x.run(day, 1000));
        attempt(() -> x.dredger(400));
        for (int d = 0; d < 6; d++) {
            int n = d;
            attempt(() -> x.station(n, 8 + n, n % 2 == 0 ? -1 : 11));
        }
        attempt(() -> x.sound(2, day, 60));
        attempt(() -> x.sound(4, day, 70));
        attempt(() -> x.payer());
        attempt(() -> x.berth(5, 100, 500, 20));
        x.cash(3);
        x.hands(7, 8);
        attempt(() -> x.bond(1, 2000, 5, 2));
        attempt(() -> x.work(1, 200, 0, 5));
        attempt(() -> x.ship(0, 2, 10, 50, 5, 5, true, 10));
        for (int s = 0; s < 3; s++) {
            int n = s;
            attempt(() -> x.back(n));
            attempt(() -> x.vote(n, n == 1));
        }
        attempt(() -> x.close());
        x.end(0);
        Due.text(x, "vote 9;ton 3;turn tons;clear 1;borrow 77");
        attempt(() -> x.act(day));
        attempt(() -> x.propose(day));
        attempt(() -> x.vote(0, true));
        x.hours(120);
        x.hours(31);
        for (int s = 0; s < 3; s++) {
            int n = s;
            attempt(() -> x.back(n));
        }
    }

    private static void attempt(Runnable call) {
        Look.answer(x -> {
            call.run();
            return 0;
        }, null);
    }

    /** The TAPE and fault() are not of the IMAGE: they are made alike. */
    private static SiltHarbour sameTape(SiltHarbour x) {
        x.end(0);
        Due.text(x, "ton 5 if (coal");
        Due.thrown("a wrong text", IllegalArgumentException.class, () -> x.another(0, true));
        Due.text(x, "ton 7;ship 3 if foreign");
        return x;
    }

    private static SiltHarbour changedAndBack(Supplier<SiltHarbour> made) {
        SiltHarbour x = kept(made);
        changeAll(x);
        Due.due("there is one", x.again(), true);
        return sameTape(x);
    }

    /** "One goes back to THE IMAGE: true": every answer now and later is what it would have been. */
    private static void allComesBack() {
        for (int hours : new int[] {0, 1, 2, 3, 4, 5, 6, 9, 14, 23, 24, 30, 47, 60, 90, 2280, 2392, 2393, 2400}) {
            Supplier<SiltHarbour> made = () -> Harbours.busy(hours);
            Look.same("back, of " + hours, Look.of(() -> changedAndBack(made)), Look.of(() -> sameTape(kept(made))));
        }
    }

    private static void fullOnesComeBack() {
        for (Supplier<SiltHarbour> made : ALL) {
            Look.same("back", Look.of(() -> changedAndBack(made)), Look.of(() -> sameTape(kept(made))));
        }
    }

    /** What would be told next by one that never went back. */
    private static SiltHarbour goOn(SiltHarbour x) {
        x.vote(1, true);
        x.close();
        x.run(x.count(1), 50);
        x.dredger(10);
        x.station(2, 6, 7);
        x.payer();
        x.berth(4, 300, 7, 8);
        x.ship(3, 1, 30, 50, 12, 12, false, 10);
        x.bond(100, 100, 2, 2);
        x.work(7, 3, 2, 1);
        x.sound(9, 0, 17);
        x.hours(50);
        for (int s = 0; s < 10; s++) {
            x.back(s);
        }
        return x;
    }

    /** What comes in the place of one that is no more has nothing of it. */
    private static void allGoesOnFromThere() {
        for (int hours : new int[] {0, 3, 24, 30, 2400}) {
            Supplier<SiltHarbour> made = () -> Harbours.busy(hours);
            Look.same("gone on, of " + hours, Look.of(() -> goOn(changedAndBack(made))), Look.of(() -> goOn(sameTape(kept(made)))));
        }
    }

    /** A VOTE as it stood: who said what, how many were for it, how many in all. */
    private static void whatWasSaidComesBack() {
        SiltHarbour x = new SiltHarbour();
        Due.act(x, 0, "vote 1");
        for (int p = 0; p < 5; p++) {
            x.payer();
        }
        x.propose(0);
        x.vote(0, true);
        x.keep();
        x.vote(1, false);
        x.vote(2, false);
        x.again();
        Due.due("1 of 1", x.close(), true);
        x.again();
        Due.due("1 had not said it", x.vote(1, false), 1);
        Due.due("1 of 2", x.close(), false);
        x.again();
        Due.due("0 had said it", x.vote(0, false), -1);
        x.vote(1, false);
        x.vote(2, true);
        x.vote(3, true);
        x.again();
        x.vote(4, false);
        Due.due("1 of 2 again", x.close(), false);
        x.propose(0);
        x.vote(0, false);
        x.keep();
        x.vote(1, true);
        x.vote(2, true);
        x.again();
        Due.due("0 of 1", x.close(), false);
        x.propose(0);
        x.vote(0, true);
        x.vote(1, false);
        x.vote(2, true);
        x.keep();
        x.vote(3, true);
        x.again();
        Due.due("3 had not said it", x.vote(3, false), 1);
        Due.due("2 of 4", x.close(), false);
        x.again();
        Due.due("2 of 3", x.close(), true);
    }

    /** SOUNDINGS with their DAYS: an older one that is told behind again() counts for as little as ahead of it. */
    private static void soundingsComeBack() {
        SiltHarbour x = new SiltHarbour();
        x.hours(120);
        x.sound(7, 3, 30);
        x.sound(0, 2, 40);
        x.sound(23, 4, 250);
        x.keep();
        x.sound(7, 5, 31);
        x.sound(0, 5, 41);
        x.sound(23, 5, 9);
        x.again();
        x.sound(7, 2, 32);
        x.sound(0, 3, 42);
        x.sound(23, 3, 8);
        Due.due("DAY 2 is older than 3", x.known(7, 120), 30);
        Due.due("DAY 3 is later than 2", x.known(0, 120), 42);
        Due.due("DAY 3 is older than 4", x.known(23, 120), 250);
        x.sound(7, 3, 33);
        Due.due("of one DAY the one told last", x.cell(7, 3), 33);
        Due.due("SOUNDINGS", x.count(17), 7);
    }

    /** A BERTH and a SHIP in the place of those that are no more. */
    private static void nothingOfWhatIsNoMore() {
        SiltHarbour x = new SiltHarbour();
        x.payer();
        x.river(0, 0, 1, 40);
        x.hands(2, 0);
        x.keep();
        x.berth(0, 900, 100, 1);
        x.ship(0, 0, 150, 1, 9, 9, false, 0);
        x.hours(120);
        Due.due("it touched", x.led(0, 8), 2);
        Due.due("LOAD", x.quay(0, 1), 150);
        x.again();
        x.berth(3, 900, 100, 1);
        x.ship(0, 0, 10, 1, 9, 9, false, 0);
        int[] berth = {3, 0, 0, -1, 0, 0};
        for (int what = 0; what < 6; what++) {
            Due.due("a new BERTH's " + what, x.quay(0, what), berth[what]);
        }
        int[] ship = {0, -1, 10, 0, -1, -1, 0, 0, 0, 0};
        for (int what = 0; what < 10; what++) {
            Due.due("a new SHIP's " + what, x.led(0, what), ship[what]);
        }
        Due.due("no LOAD", x.count(8), 0);
        Due.due("no TOUCH", x.count(13), 0);
        Due.due("none is GONE", x.count(6), 0);
        Due.text(x, "ship 1");
        Due.due("none left", x.another(0, true), 0);
    }

    private static void ranksComeBack() {
        SiltHarbour x = new SiltHarbour();
        Due.act(x, 0, "borrow 999999");
        x.bond(100, 2000, 9, 1);
        x.bond(100, 1000, 0, 1);
        x.bond(100, 500, 4, 1);
        x.keep();
        for (int i = 0; i < 3; i++) {
            Due.pass(x, 4800);
            int[] owed = {35, 0, 0};
            for (int b = 0; b < 3; b++) {
                Due.due("owed to " + b + ", time " + i, x.owes(b, 0), owed[b]);
            }
            Due.due("back", x.again(), true);
        }
    }

    /** "THE IMAGE (one)": the latest that was kept. */
    private static void oneImage() {
        SiltHarbour x = new SiltHarbour();
        x.cash(1);
        x.keep();
        x.cash(10);
        x.keep();
        x.cash(100);
        for (int i = 0; i < 3; i++) {
            Due.due("back", x.again(), true);
            Due.due("to the latest", x.count(10), 11);
            x.cash(1000);
        }
        x.again();
        x.keep();
        x.cash(5);
        x.again();
        Due.due("kept again as it was", x.count(10), 11);
    }

    /** "gone back to (but for .. THE IMAGE itself)": one may go back again and again. */
    private static void theImageItselfStays() {
        Supplier<SiltHarbour> twice = () -> {
            SiltHarbour x = kept(Harbours.BUSY);
            changeAll(x);
            x.again();
            changeAll(x);
            x.hours(7);
            x.again();
            return sameTape(x);
        };
        Look.same("back twice", Look.of(twice), Look.of(() -> sameTape(kept(Harbours.BUSY))));
    }

    private static void notTheTape() {
        SiltHarbour x = new SiltHarbour();
        Due.text(x, "ton 5");
        x.keep();
        x.end(3);
        x.again();
        Due.due("cut as it is", x.end(4), false);
        Due.due("3 bytes", x.end(3), true);
        x.end(0);
        x.keep();
        Due.text(x, "ton 5;ship 7");
        x.again();
        Due.due("fed as it is", x.act(0), 2);
        x.again();
        Due.due("used up as it is", x.end(1), false);
        Due.due("but no ACT came", x.count(18), 0);
    }

    private static void notTheFault() {
        SiltHarbour x = new SiltHarbour();
        x.keep();
        Due.text(x, "ton");
        Due.thrown("wrong", IllegalArgumentException.class, () -> x.act(0));
        x.again();
        Due.due("the fault stays", x.fault(), 3);
        x.keep();
        x.act(0);
        Due.due("right", x.fault(), -1);
        x.again();
        Due.due("no fault stays, too", x.fault(), -1);
    }

    private static void backToTheBegin() {
        SiltHarbour x = new SiltHarbour();
        x.keep();
        Due.pass(x, 30000);
        Due.due("at last", x.hours(1), 30000);
        x.again();
        Due.due("at the begin", x.hours(1), 1);
        x.again();
        x.river(0, 0, 5, 5);
        Due.due("HOUR 0", x.count(0), 0);
        SiltHarbour y = new SiltHarbour();
        y.keep();
        for (int i = 0; i < 30; i++) {
            y.payer();
        }
        y.again();
        Due.due("there is room again", y.payer(), 0);
        Due.thrown("no second one", IndexOutOfBoundsException.class, () -> y.pays(1, 0));
    }

    /** "NONE for another what". */
    private static void countsOfAnotherWhat() {
        for (Supplier<SiltHarbour> made : List.of(Harbours.NEW, Harbours.BUSY)) {
            for (int what : new int[] {-1, -2, 24, 25, 100, Integer.MIN_VALUE, Integer.MAX_VALUE}) {
                Look.refused("count " + what, -1, made, x -> x.count(what));
            }
            for (int what = 0; what < 24; what++) {
                Due.due("count " + what + " is one", made.get().count(what) >= 0, true);
            }
        }
    }

    /** Each count by itself, one step each. */
    private static void countsStep() {
        SiltHarbour x = new SiltHarbour();
        Due.act(x, 0, "ship 10;back 50;borrow 100;ton 0");
        x.payer();
        expect(x, "an ACT", 18, 1, 19, 4);
        x.berth(12, 100, 25, 20);
        expect(x, "a BERTH", 3, 1, 18, 1, 19, 4);
        x.ship(0, 0, 30, 50, 5, 5, false, 0);
        expect(x, "a SHIP", 3, 1, 4, 1, 5, 1, 18, 1, 19, 4);
        x.river(0, 0, 4, 20);
        expect(x, "the bar", 3, 1, 4, 1, 5, 1, 18, 1, 19, 4, 23, 464);
        x.hours(1);
        expect(x, "coming in", 0, 1, 3, 1, 4, 1, 7, 1, 13, 1, 18, 1, 19, 4, 23, 464);
        x.hours(2);
        expect(x, "there", 0, 3, 3, 1, 4, 1, 7, 1, 8, 15, 9, 10, 13, 1, 18, 1, 19, 4, 23, 464);
        x.hours(1);
        expect(x, "ready", 0, 4, 3, 1, 4, 1, 7, 2, 8, 10, 9, 20, 13, 1, 18, 1, 19, 4, 23, 464);
        x.hours(1);
        expect(x, "GONE", 0, 5, 3, 1, 4, 1, 6, 1, 7, 1, 8, 0, 9, 30, 10, 10, 11, 10, 13, 2, 18, 1, 19, 4, 23, 464);
        x.back(0);
        expect(x, "BACK", 0, 5, 3, 1, 4, 1, 6, 1, 7, 1, 9, 30, 10, 5, 11, 10, 12, 5, 13, 2, 18, 1, 19, 4, 23, 464);
        x.sound(0, 0, 5);
        x.bond(100, 2000, 0, 1);
        expect(x, "a SOUNDING and a BOND", 0, 5, 3, 1, 4, 1, 6, 1, 7, 1, 9, 30, 10, 105, 11, 10, 12, 5, 13, 2, 17, 1, 18, 1, 19, 4, 20, 1, 23, 464);
        x.dredger(10);
        x.station(0, 1, -1);
        x.run(0, 100);
        x.hours(19);
        int heaps = 100 - x.count(15) + 40;
        expect(x, "a DAY", 0, 24, 1, 1, 3, 1, 4, 1, 6, 1, 7, 2, 9, 30, 10, 105, 11, 10, 12, 5, 13, 2, 14, 100, 15, x.count(15), 16, 10, 17, 1, 18, 1, 19, 4, 20, 1,
            22, heaps, 23, 465);
        Due.due("some went to the SEA", x.count(15) > 0, true);
        x.run(1, 0);
        x.station(0, -1, -1);
        Due.pass(x, 2376);
        expect(x, "a YEAR", 0, 2400, 1, 100, 2, 1, 3, 1, 4, 1, 6, 1, 7, 2, 9, 30, 11, 10, 12, 5, 13, 2, 14, 100, 15, x.count(15), 16, 10, 17, 1, 18, 1, 19, 4, 20, 1,
            21, 15, 22, heaps, 23, 465);
    }

    /** Sums over all that there may be. */
    private static void countsOfFullOnes() {
        SiltHarbour x = Harbours.FULL_PORT.get();
        int load = 0;
        for (int b = 0; b < 10; b++) {
            load += x.quay(b, 1);
        }
        Due.due("tons that lie on 10 BERTHS", x.count(8), load);
        Due.due("80 SHIPS", x.count(4), 80);
        Due.due("none touched", x.count(13), 0);
        Due.due("WAITING and not", x.count(5) + x.count(6) < 80, true);
        SiltHarbour y = new SiltHarbour();
        Due.act(y, 0, "borrow 999999");
        for (int b = 0; b < 20; b++) {
            y.bond(1000, 2000, 9 - b / 2, 1);
        }
        Due.pass(y, 2400);
        int owed = 0;
        for (int b = 0; b < 20; b++) {
            owed += y.owes(b, 0);
        }
        Due.due("what 20 BONDS owe", y.count(21), owed);
        Due.due("the interest of all", owed, 4000);
        SiltHarbour z = Harbours.FULL_RIVER.get();
        z.hours(120);
        int heaps = 0;
        int beds = 0;
        for (int c = 0; c < 24; c++) {
            heaps += z.cell(c, 2);
            beds += z.cell(c, 0);
        }
        Due.due("all HEAPS", z.count(22), heaps);
        Due.due("all BEDS", z.count(23), beds);
    }

    /** Pairs of a what and its count; all others are as in a new object. */
    private static void expect(SiltHarbour x, String when, int... pairs) {
        int[] want = new int[24];
        want[7] = 2;
        want[23] = 480;
        for (int i = 0; i < pairs.length; i += 2) {
            want[pairs[i]] = pairs[i + 1];
        }
        for (int what = 0; what < 24; what++) {
            Due.due(when + ": count(" + what + ")", x.count(what), want[what]);
        }
    }

    /** A call that throws changes the IMAGE as little as the rest (Look goes back to it, too). */
    private static void refusedCallsLeaveTheImage() {
        Look.refused("hours", IllegalArgumentException.class, Harbours.PAID, x -> x.hours(121));
        Look.refusedDeed("river", IllegalStateException.class, Harbours.PAID, x -> x.river(0, 0, 1, 1));
        Look.refused("payer", UnsupportedOperationException.class, () -> kept(Harbours.FULL_PORT), x -> x.payer());
    }
}
