/** Promises 36 to 38: the image and counts. */
public final class ImageTest {
    public static void main(String[] args) {
        counts();
        noImage();
        notInTheImage();
        allComesBack();
        imageStays();
        voteComesBack();
        shipsKeepTheirActs();
        newOnesAreNew();
        riverComesBack();
        touchesComeBack();
        bondsComeBack();
        Due.finish("ImageTest");
    }

    private static void counts() {
        SiltHarbour x = new SiltHarbour();
        Due.due("what -1", x.count(-1), -1);
        Due.due("what 24", x.count(24), -1);
        Due.due("what least", x.count(Integer.MIN_VALUE), -1);
        Due.due("what most", x.count(Integer.MAX_VALUE), -1);
    }

    private static void noImage() {
        SiltHarbour x = new SiltHarbour();
        x.cash(5);
        Due.due("none was kept", x.again(), false);
        Due.due("nothing happens", x.count(10), 5);
    }

    private static void notInTheImage() {
        SiltHarbour x = new SiltHarbour();
        x.feed(0, 0, 0, 0, 0);
        x.keep();
        Due.thrown("a wrong text", IllegalArgumentException.class, () -> x.act(0));
        x.feed(0, 0, 0, 0, 0);
        x.feed(0, 0, 0, 0, 0);
        Due.due("back", x.again(), true);
        Due.due("the tape stays", x.end(40), true);
        Due.due("the fault, too", x.fault(), 0);
    }

    /** A harbour in which something of every kind goes on, some hours old. */
    private static SiltHarbour busy(int hours) {
        SiltHarbour x = new SiltHarbour();
        x.river(0, 23, 25, 22);
        x.river(7, 9, 30, 33);
        for (int h = 0; h < 25; h++) {
            x.tide(h, h * 7 % 11 - 5);
        }
        x.sound(1, 0, 26);
        x.run(0, 300);
        x.run(3, 700);
        x.dredger(40);
        x.station(0, 3, 4);
        x.sound(2, 0, 30);
        x.payer();
        x.payer();
        x.berth(0, 100, 10, 20);
        x.berth(13, 600, 10, 20);
        Due.act(x, 0, "ton 1;ship 3 if stay > 20;vote 1;vote 2 if last > 0;borrow 5000;back 50;turn good;clear 3");
        x.cash(100);
        x.bond(1000, 2000, 3, 1);
        x.bond(1000, 2000, 3, 1);
        x.work(10, 2, 0, 5);
        x.work(50, 20, 3, 15);
        for (int i = 0; i < 9; i++) {
            x.ship(i % 2, (i + 4) % 6, 17 * (i + 1), i == 4 ? 500 : 50 + i, 15 + i % 3, 10 + i % 5, i % 3 == 0, 50 * i);
        }
        Due.text(x, "vote 3;ton 2;clear 4;turn long");
        x.propose(3);
        x.vote(0, true);
        Due.pass(x, hours);
        x.back(0);
        return x;
    }

    private static void changeAll(SiltHarbour x) {
        int day = x.count(1);
        for (int h = 0; h < 25; h++) {
            x.tide(h, h % 4);
        }
        x.run(day, 1000);
        x.dredger(400);
        x.station(0, 8, -1);
        x.station(1, 9, 10);
        x.sound(2, day, 60);
        x.sound(4, day, 70);
        x.payer();
        x.berth(5, 100, 500, 20);
        x.cash(3);
        x.hands(7, 8);
        x.bond(500, 2000, 5, 2);
        x.work(1, 200, 0, 5);
        x.ship(2, 2, 10, 50, 5, 5, true, 10);
        x.back(1);
        x.back(2);
        x.vote(1, false);
        x.vote(2, true);
        x.close();
        x.propose(day + 1);
        x.vote(2, true);
        x.vote(1, true);
        Due.pass(x, 300);
        for (int s = 0; s < 10; s++) {
            x.back(s);
        }
    }

    /** What would be done next by one that never went back. */
    private static void goOn(SiltHarbour x) {
        x.vote(1, true);
        x.close();
        x.run(x.count(1), 50);
        x.dredger(10);
        x.payer();
        x.ship(2, 1, 30, 50, 12, 12, false, 10);
        x.bond(100, 100, 2, 2);
        x.work(7, 3, 2, 1);
        Due.pass(x, 200);
        for (int s = 0; s < 10; s++) {
            x.back(s);
        }
    }

    /** Every answer that tells of the state. */
    private static String allOf(SiltHarbour x) {
        StringBuilder all = new StringBuilder();
        for (int what = 0; what < 24; what++) {
            all.append(x.count(what)).append(' ');
        }
        for (int c = 0; c < 24; c++) {
            for (int what = 0; what < 4; what++) {
                all.append(x.cell(c, what)).append(' ');
            }
            all.append(x.known(c, 1)).append(' ');
        }
        for (int s = 0; s < x.count(4); s++) {
            for (int what = 0; what < 10; what++) {
                all.append(x.led(s, what)).append(' ');
            }
            for (int what = 0; what < 4; what++) {
                all.append(x.judge(s, what)).append(' ');
            }
            for (int b = 0; b < x.count(3); b++) {
                all.append(x.window(s, b, true)).append(' ').append(x.window(s, b, false)).append(' ');
            }
        }
        for (int b = 0; b < x.count(3); b++) {
            for (int what = 0; what < 6; what++) {
                all.append(x.quay(b, what)).append(' ');
            }
        }
        all.append(hasPayer(x, 2)).append(' ');
        for (int p = 0; p < 2; p++) {
            for (int what = 0; what < 5; what++) {
                all.append(x.pays(p, what)).append(' ');
            }
        }
        for (int b = 0; b < x.count(20); b++) {
            for (int what = 0; what < 4; what++) {
                all.append(x.owes(b, what)).append(' ');
            }
        }
        for (int year = 0; year < 2; year++) {
            Due.text(x, "ton 2;ship 1 if stay > 9");
            all.append(x.another(year, true)).append(' ');
            Due.text(x, "ton 2;ship 1 if stay > 9");
            all.append(x.another(year, false)).append(' ');
        }
        all.append(x.bring()).append(' ').append(x.best(50));
        for (int set = 0; set < 8; set++) {
            all.append(' ').append(x.worth(50, set));
        }
        return all.toString();
    }

    private static boolean hasPayer(SiltHarbour x, int payer) {
        try {
            x.pays(payer, 0);
            return true;
        } catch (IndexOutOfBoundsException e) {
            return false;
        }
    }

    private static void allComesBack() {
        for (int hours : new int[] {1, 2, 3, 4, 5, 6, 9, 14, 23, 24, 30, 60, 90, 2280, 2399, 2400, 2410}) {
            SiltHarbour x = busy(hours);
            SiltHarbour same = busy(hours);
            String ahead = allOf(x);
            x.keep();
            changeAll(x);
            Due.due("it is another, " + hours, allOf(x).equals(ahead), false);
            Due.due("back, " + hours, x.again(), true);
            Due.due("as it was, " + hours, allOf(x).equals(ahead), true);
            goOn(x);
            goOn(same);
            Due.due("it goes on as one that never went back, " + hours, allOf(x).equals(allOf(same)), true);
        }
    }

    private static void imageStays() {
        SiltHarbour x = busy(30);
        x.keep();
        String ahead = allOf(x);
        for (int i = 0; i < 3; i++) {
            changeAll(x);
            Due.due("back", x.again(), true);
            Due.due("as it was", allOf(x).equals(ahead), true);
        }
        changeAll(x);
        x.keep();
        String later = allOf(x);
        goOn(x);
        x.again();
        Due.due("the later image", allOf(x).equals(later), true);
    }

    private static void voteComesBack() {
        SiltHarbour x = busy(30);
        x.keep();
        Due.due("said", x.vote(0, true), -1);
        Due.due("against", x.vote(1, false), 1);
        Due.due("1 of 2", x.close(), false);
        x.again();
        Due.thrown("a vote goes on", IllegalStateException.class, () -> x.propose(4));
        Due.due("0 said so", x.vote(0, true), -1);
        Due.due("1 did not", x.vote(1, true), 1);
        Due.due("2 of 2", x.close(), true);
        x.keep();
        x.propose(9);
        x.again();
        Due.thrown("none goes on", IllegalStateException.class, () -> x.close());
    }

    private static void shipsKeepTheirActs() {
        SiltHarbour x = new SiltHarbour();
        x.payer();
        Due.act(x, 0, "ship 1");
        x.ship(0, 0, 1, 1, 1, 1, false, 0);
        x.keep();
        Due.act(x, 0, "ship 2");
        x.ship(0, 0, 1, 1, 1, 1, false, 0);
        Due.due("by the second", x.led(1, 6), 2);
        x.again();
        Due.act(x, 0, "ship 4");
        x.ship(0, 0, 1, 1, 1, 1, false, 0);
        Due.due("by the first", x.led(0, 6), 1);
        Due.due("by the third", x.led(1, 6), 4);
        Due.due("two acts", x.count(18), 2);
    }

    private static void riverComesBack() {
        SiltHarbour x = new SiltHarbour();
        x.river(3, 3, 30, 40);
        x.keep();
        x.river(3, 4, 50, 60);
        x.again();
        Due.due("bed", x.cell(3, 0), 30);
        Due.due("natural", x.cell(3, 1), 40);
        Due.due("natural of another", x.cell(4, 1), 20);
    }

    private static void bondsComeBack() {
        SiltHarbour x = new SiltHarbour();
        Due.act(x, 0, "borrow 1000");
        x.bond(1000, 2000, 0, 1);
        x.keep();
        Due.pass(x, 2400);
        Due.due("200 are owed", x.owes(0, 0), 200);
        x.again();
        Due.due("none is", x.owes(0, 0), 0);
        Due.due("none in all", x.count(21), 0);
        Due.due("none was paid", x.owes(0, 2), 0);
        Due.due("the face", x.owes(0, 1), 1000);
    }

    private static void touchesComeBack() {
        SiltHarbour x = new SiltHarbour();
        x.river(0, 0, 5, 40);
        x.payer();
        x.berth(0, 10, 10, 10);
        x.ship(0, 0, 1, 1, 9, 9, false, 0);
        x.keep();
        x.hours(1);
        Due.due("touched", x.led(0, 8), 1);
        x.again();
        Due.due("not yet", x.led(0, 8), 0);
        Due.due("none", x.count(13), 0);
    }

    /** What comes in the place of one that is no more has nothing of it. */
    private static void newOnesAreNew() {
        SiltHarbour x = new SiltHarbour();
        x.payer();
        Due.act(x, 0, "ship 9;back 50;borrow 5000");
        x.keep();
        x.payer();
        x.berth(0, 900, 100, 1);
        x.dredger(100);
        x.station(0, 5, 6);
        x.bond(1000, 1000, 0, 1);
        x.cash(1000);
        x.ship(1, 0, 150, 1, 1, 1, false, 0);
        Due.pass(x, 2400);
        Due.due("back", x.back(0), 4);
        x.again();
        x.payer();
        x.dredger(1);
        Due.due("laid up", x.station(0, -1, -1), false);
        x.berth(0, 900, 100, 1);
        x.bond(1000, 1000, 0, 3);
        x.ship(1, 0, 150, 1, 1, 1, false, 0);
        for (int what = 1; what < 6; what++) {
            Due.due("berth " + what, x.quay(0, what), what == 3 ? -1 : 0);
        }
        int[] ship = {0, -1, 150, 0, -1, -1, 9, 0, 0, 0};
        for (int what = 0; what < 10; what++) {
            Due.due("ship " + what, x.led(0, what), ship[what]);
        }
        for (int what = 0; what < 5; what++) {
            Due.due("payer " + what, x.pays(1, what), what == 3 ? 1 : 0);
        }
        int[] bond = {0, 1000, 0, 2};
        for (int what = 0; what < 4; what++) {
            Due.due("bond " + what, x.owes(0, what), bond[what]);
        }
        x.hours(3);
        Due.due("it may have its back", x.back(0), 4);
    }
}
