/** Promises 36 to 38: the image and counts. */
public final class ImageTest {
    public static void main(String[] args) {
        counts();
        noImage();
        notInTheImage();
        allComesBack();
        imageStays();
        voteComesBack();
        shipsKeepTheirActs();
        Due.finish("ImageTest");
    }

    private static void counts() {
        SiltHarbour x = new SiltHarbour();
        Due.due("what -1", x.count(-1), -1);
        Due.due("what 24", x.count(24), -1);
        Due.due("what least", x.count(Integer.MIN_VALUE), -1);
        Due.due("what most", x.count(Integer.MAX_VALUE), -1);
    }

    private static void noImage() {
        SiltHarbour x = new SiltHarbour();
        x.cash(5);
        Due.due("none was kept", x.again(), false);
        Due.due("nothing happens", x.count(10), 5);
    }

    private static void notInTheImage() {
        SiltHarbour x = new SiltHarbour();
        x.feed(0, 0, 0, 0, 0);
        x.keep();
        Due.thrown("a wrong text", IllegalArgumentException.class, () -> x.act(0));
        x.feed(0, 0, 0, 0, 0);
        x.feed(0, 0, 0, 0, 0);
        Due.due("back", x.again(), true);
        Due.due("the tape stays", x.end(40), true);
        Due.due("the fault, too", x.fault(), 0);
    }

    private static SiltHarbour busy() {
        SiltHarbour x = new SiltHarbour();
        x.river(0, 23, 25, 22);
        x.tide(3, 4);
        x.run(0, 300);
        x.dredger(40);
        x.station(0, 3, 4);
        x.sound(2, 0, 30);
        x.payer();
        x.payer();
        x.berth(0, 100, 10, 20);
        x.berth(13, 100, 10, 20);
        Due.act(x, 0, "ton 1;vote 1;borrow 5000;back 50;turn good;clear 3");
        x.cash(100);
        x.bond(1000, 100, 3, 2);
        x.work(10, 2, 0, 5);
        x.ship(0, 2, 10, 50, 5, 5, true, 10);
        x.ship(1, 1, 30, 50, 15, 5, false, 10);
        x.ship(1, 1, 30, 500, 15, 5, false, 10);
        x.hours(30);
        x.back(0);
        x.propose(3);
        x.vote(0, true);
        return x;
    }

    private static void changeAll(SiltHarbour x) {
        x.tide(3, 7);
        x.run(2, 1000);
        x.dredger(400);
        x.station(0, 8, -1);
        x.station(1, 9, 10);
        x.sound(2, 1, 60);
        x.payer();
        x.berth(5, 100, 10, 20);
        x.cash(3);
        x.hands(7, 8);
        x.bond(500, 100, 3, 2);
        x.work(1, 200, 0, 5);
        x.ship(2, 2, 10, 50, 5, 5, true, 10);
        x.vote(1, false);
        x.vote(2, true);
        x.close();
        x.hours(100);
    }

    /** Every answer that tells of the state. */
    private static String allOf(SiltHarbour x) {
        StringBuilder all = new StringBuilder();
        for (int what = 0; what < 24; what++) {
            all.append(x.count(what)).append(' ');
        }
        for (int c = 0; c < 24; c++) {
            for (int what = 0; what < 4; what++) {
                all.append(x.cell(c, what)).append(' ');
            }
        }
        for (int s = 0; s < x.count(4); s++) {
            for (int what = 0; what < 10; what++) {
                all.append(x.led(s, what)).append(' ');
            }
            all.append(x.window(s, 0, true)).append(' ');
        }
        for (int b = 0; b < x.count(3); b++) {
            for (int what = 0; what < 6; what++) {
                all.append(x.quay(b, what)).append(' ');
            }
        }
        for (int p = 0; p < 2; p++) {
            for (int what = 0; what < 5; what++) {
                all.append(x.pays(p, what)).append(' ');
            }
        }
        for (int b = 0; b < x.count(20); b++) {
            for (int what = 0; what < 4; what++) {
                all.append(x.owes(b, what)).append(' ');
            }
        }
        all.append(x.bring()).append(' ').append(x.best(50)).append(' ').append(x.worth(50, 1));
        return all.toString();
    }

    private static void allComesBack() {
        SiltHarbour x = busy();
        SiltHarbour same = busy();
        String ahead = allOf(x);
        x.keep();
        changeAll(x);
        Due.due("it is another", allOf(x).equals(ahead), false);
        Due.due("back", x.again(), true);
        Due.due("as it was", allOf(x).equals(ahead), true);
        changeAll(x);
        changeAll(same);
        Due.due("it goes on as one that never went back", allOf(x).equals(allOf(same)), true);
        Due.due("the third payer paid", x.pays(2, 4), 10);
        x.again();
        x.payer();
        Due.due("a new one in its place is new", x.pays(2, 4), 0);
    }

    private static void imageStays() {
        SiltHarbour x = busy();
        x.keep();
        String ahead = allOf(x);
        for (int i = 0; i < 3; i++) {
            changeAll(x);
            Due.due("back", x.again(), true);
            Due.due("as it was", allOf(x).equals(ahead), true);
        }
        x.hours(5);
        x.keep();
        String later = allOf(x);
        x.hours(100);
        x.again();
        Due.due("the later image", allOf(x).equals(later), true);
    }

    private static void voteComesBack() {
        SiltHarbour x = busy();
        x.keep();
        Due.due("said", x.vote(0, true), -1);
        Due.due("against", x.vote(1, false), 1);
        Due.due("1 of 2", x.close(), false);
        x.again();
        Due.thrown("a vote goes on", IllegalStateException.class, () -> x.propose(4));
        Due.due("0 said so", x.vote(0, true), -1);
        Due.due("1 did not", x.vote(1, true), 1);
        Due.due("2 of 2", x.close(), true);
        x.keep();
        x.propose(9);
        x.again();
        Due.thrown("none goes on", IllegalStateException.class, () -> x.close());
    }

    private static void shipsKeepTheirActs() {
        SiltHarbour x = new SiltHarbour();
        x.payer();
        Due.act(x, 0, "ship 1");
        x.ship(0, 0, 1, 1, 1, 1, false, 0);
        x.keep();
        Due.act(x, 0, "ship 2");
        x.ship(0, 0, 1, 1, 1, 1, false, 0);
        Due.due("by the second", x.led(1, 6), 2);
        x.again();
        Due.act(x, 0, "ship 4");
        x.ship(0, 0, 1, 1, 1, 1, false, 0);
        Due.due("by the first", x.led(0, 6), 1);
        Due.due("by the third", x.led(1, 6), 4);
        Due.due("two acts", x.count(18), 2);
    }
}
