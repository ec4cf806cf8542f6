/** Promises 36 to 38: the image and counts. */
public final class ImageTest {
    public static void main(String[] args) {
        counts();
        noImage();
        notInTheImage();
        voteComesBack();
        shipsKeepTheirActs();
        newOnesAreNew();
        riverComesBack();
        touchesComeBack();
        bondsComeBack();
        Due.finish("ImageTest");
    }

    private static void counts() {
        SiltHarbour x = new SiltHarbour();
        Due.due("what -1", x.count(-1), -1);
        Due.due("what 24", x.count(24), -1);
        Due.due("what least", x.count(Integer.MIN_VALUE), -1);
        Due.due("what most", x.count(Integer.MAX_VALUE), -1);
    }

    private static void noImage() {
        SiltHarbour x = new SiltHarbour();
        x.cash(5);
        Due.due("none was kept", x.again(), false);
        Due.due("nothing happens", x.count(10), 5);
    }

    private static void notInTheImage() {
        SiltHarbour x = new SiltHarbour();
        x.feed(0, 0, 0, 0, 0);
        x.keep();
        Due.thrown("a wrong text", IllegalArgumentException.class, () -> x.act(0));
        x.feed(0, 0, 0, 0, 0);
        x.feed(0, 0, 0, 0, 0);
        Due.due("back", x.again(), true);
        Due.due("the tape stays", x.end(40), true);
        Due.due("the fault, too", x.fault(), 0);
    }

    private static void voteComesBack() {
        SiltHarbour x = Harbours.busy(30);
        x.keep();
        Due.due("said", x.vote(0, true), -1);
        Due.due("against", x.vote(1, false), 1);
        Due.due("1 of 2", x.close(), false);
        x.again();
        Due.thrown("a vote goes on", IllegalStateException.class, () -> x.propose(4));
        Due.due("0 said so", x.vote(0, true), -1);
        Due.due("1 did not", x.vote(1, true), 1);
        Due.due("2 of 2", x.close(), true);
        x.keep();
        x.propose(9);
        x.again();
        Due.thrown("none goes on", IllegalStateException.class, () -> x.close());
    }

    private static void shipsKeepTheirActs() {
        SiltHarbour x = new SiltHarbour();
        x.payer();
        Due.act(x, 0, "ship 1");
        x.ship(0, 0, 1, 1, 1, 1, false, 0);
        x.keep();
        Due.act(x, 0, "ship 2");
        x.ship(0, 0, 1, 1, 1, 1, false, 0);
        Due.due("by the second", x.led(1, 6), 2);
        x.again();
        Due.act(x, 0, "ship 4");
        x.ship(0, 0, 1, 1, 1, 1, false, 0);
        Due.due("by the first", x.led(0, 6), 1);
        Due.due("by the third", x.led(1, 6), 4);
        Due.due("two acts", x.count(18), 2);
    }

    private static void riverComesBack() {
        SiltHarbour x = new SiltHarbour();
        x.river(3, 3, 30, 40);
        x.keep();
        x.river(3, 4, 50, 60);
        x.again();
        Due.due("bed", x.cell(3, 0), 30);
        Due.due("natural", x.cell(3, 1), 40);
        Due.due("natural of another", x.cell(4, 1), 20);
    }

    private static void bondsComeBack() {
        SiltHarbour x = new SiltHarbour();
        Due.act(x, 0, "borrow 1000");
        x.bond(1000, 2000, 0, 1);
        x.keep();
        Due.pass(x, 2400);
        Due.due("200 are owed", x.owes(0, 0), 200);
        x.again();
        Due.due("none is", x.owes(0, 0), 0);
        Due.due("none in all", x.count(21), 0);
        Due.due("none was paid", x.owes(0, 2), 0);
        Due.due("the face", x.owes(0, 1), 1000);
    }

    private static void touchesComeBack() {
        SiltHarbour x = new SiltHarbour();
        x.river(0, 0, 5, 40);
        x.payer();
        x.berth(0, 10, 10, 10);
        x.ship(0, 0, 1, 1, 9, 9, false, 0);
        x.keep();
        x.hours(1);
        Due.due("touched", x.led(0, 8), 1);
        x.again();
        Due.due("not yet", x.led(0, 8), 0);
        Due.due("none", x.count(13), 0);
    }

    /** What comes in the place of one that is no more has nothing of it. */
    private static void newOnesAreNew() {
        SiltHarbour x = new SiltHarbour();
        x.payer();
        Due.act(x, 0, "ship 9;back 50;borrow 5000");
        x.keep();
        x.payer();
        x.berth(0, 900, 100, 1);
        x.dredger(100);
        x.station(0, 5, 6);
        x.bond(1000, 1000, 0, 1);
        x.cash(1000);
        x.ship(1, 0, 150, 1, 1, 1, false, 0);
        Due.pass(x, 2400);
        Due.due("back", x.back(0), 4);
        x.again();
        x.payer();
        x.dredger(1);
        Due.due("laid up", x.station(0, -1, -1), false);
        x.berth(0, 900, 100, 1);
        x.bond(1000, 1000, 0, 3);
        x.ship(1, 0, 150, 1, 1, 1, false, 0);
        for (int what = 1; what < 6; what++) {
            Due.due("berth " + what, x.quay(0, what), what == 3 ? -1 : 0);
        }
        int[] ship = {0, -1, 150, 0, -1, -1, 9, 0, 0, 0};
        for (int what = 0; what < 10; what++) {
            Due.due("ship " + what, x.led(0, what), ship[what]);
        }
        for (int what = 0; what < 5; what++) {
            Due.due("payer " + what, x.pays(1, what), what == 3 ? 1 : 0);
        }
        int[] bond = {0, 1000, 0, 2};
        for (int what = 0; what < 4; what++) {
            Due.due("bond " + what, x.owes(0, what), bond[what]);
        }
        x.hours(3);
        Due.due("it may have its back", x.back(0), 4);
    }
}
