/** Promises 1 and 4 to 11: the river, tide, run, dredgers and soundings. */
public final class RiverTest {
    private static final Class<?> INDEX = IndexOutOfBoundsException.class;
    private static final Class<?> ARGUMENT = IllegalArgumentException.class;
    private static final Class<?> STATE = IllegalStateException.class;

    public static void main(String[] args) {
        newObject();
        river();
        tide();
        run();
        silt();
        siltIsBounded();
        dredger();
        dredgerAtTheBottom();
        dredgersLay();
        shallowHeap();
        theBar();
        soundings();
        known();
        Due.finish("RiverTest");
    }

    private static void newObject() {
        SiltHarbour x = new SiltHarbour();
        for (int what = 0; what < 24; what++) {
            int want = what == 7 ? 2 : what == 23 ? 480 : 0;
            Due.due("new count " + what, x.count(what), want);
        }
        for (int c = 0; c < 24; c++) {
            Due.due("bed", x.cell(c, 0), 20);
            Due.due("natural", x.cell(c, 1), 20);
            Due.due("heap", x.cell(c, 2), 0);
            Due.due("known", x.cell(c, 3), 20);
        }
        Due.due("fault", x.fault(), -1);
        Due.due("bring", x.bring(), 0);
        Due.due("best", x.best(5), 0);
        Due.due("again", x.again(), false);
        Due.thrown("no berth", INDEX, () -> x.quay(0, 0));
        Due.thrown("no ship", INDEX, () -> x.led(0, 0));
        Due.thrown("no payer", INDEX, () -> x.pays(0, 0));
        Due.thrown("no bond", INDEX, () -> x.owes(0, 0));
        Due.thrown("no dredger", INDEX, () -> x.station(0, 0, 0));
    }

    private static void river() {
        SiltHarbour x = new SiltHarbour();
        x.river(3, 5, 0, 200);
        Due.due("bed 2", x.cell(2, 0), 20);
        Due.due("bed 3", x.cell(3, 0), 0);
        Due.due("bed 5", x.cell(5, 0), 0);
        Due.due("natural 5", x.cell(5, 1), 200);
        Due.due("known 5", x.cell(5, 3), 200);
        Due.due("bed 6", x.cell(6, 0), 20);
        Due.due("all beds", x.count(23), 420);
        Due.thrown("from -1", INDEX, () -> x.river(-1, 0, 999, 0));
        Due.thrown("to 24", INDEX, () -> x.river(0, 24, 0, 0));
        Due.thrown("from above to", ARGUMENT, () -> x.river(2, 1, 0, 0));
        Due.thrown("bed 201", ARGUMENT, () -> x.river(0, 0, 201, 0));
        Due.thrown("bed -1", ARGUMENT, () -> x.river(0, 0, -1, 0));
        Due.thrown("natural 201", ARGUMENT, () -> x.river(0, 0, 0, 201));
        Due.thrown("natural -1", ARGUMENT, () -> x.river(0, 0, 0, -1));
        Due.due("nothing changed", x.cell(0, 0), 20);
        x.hours(1);
        Due.thrown("later", STATE, () -> x.river(0, 0, 1, 1));
        Due.thrown("later and wrong", ARGUMENT, () -> x.river(0, 0, 201, 1));
        Due.thrown("no cell", INDEX, () -> x.cell(24, 9));
        Due.thrown("no cell below", INDEX, () -> x.cell(-1, 0));
        Due.thrown("no such what", java.util.NoSuchElementException.class, () -> x.cell(0, 4));
        Due.thrown("no what below", java.util.NoSuchElementException.class, () -> x.cell(0, -1));
    }

    private static void tide() {
        SiltHarbour x = new SiltHarbour();
        x.tide(0, -20);
        x.tide(24, 60);
        Due.thrown("hour 25", ARGUMENT, () -> x.tide(25, 0));
        Due.thrown("hour -1", ARGUMENT, () -> x.tide(-1, 0));
        Due.thrown("level 61", ARGUMENT, () -> x.tide(0, 61));
        Due.thrown("level -21", ARGUMENT, () -> x.tide(0, -21));
        x.berth(0, 100, 1, 1);
        x.payer();
        x.ship(0, 0, 1, 1, 75, 20, false, 0);
        Due.due("high water at 24", x.window(0, 0, false), 24);
        x.hours(24);
        Due.due("and at 49", x.window(0, 0, false), 49);
    }

    private static void run() {
        SiltHarbour x = new SiltHarbour();
        Due.thrown("day -1", ARGUMENT, () -> x.run(-1, 0));
        Due.thrown("day 1251", ARGUMENT, () -> x.run(1251, 0));
        Due.thrown("run -1", ARGUMENT, () -> x.run(0, -1));
        Due.thrown("run 2001", ARGUMENT, () -> x.run(0, 2001));
        Due.due("first", x.run(1250, 2000), 1);
        Due.due("second", x.run(2, 7), 2);
        Due.due("third", x.run(2, 9), 3);
        Due.due("fourth", x.run(4, 0), 4);
        Due.due("fifth", x.run(3, 11), 5);
        x.hours(48);
        Due.due("none ran on days 0, 1", x.count(14), 0);
        x.hours(24);
        Due.due("day 2, the latest of it", x.count(14), 9);
        x.hours(24);
        Due.due("day 3", x.count(14), 20);
        x.hours(48);
        Due.due("days 4, 5", x.count(14), 20);
        Due.thrown("the day is over", ARGUMENT, () -> x.run(5, 1));
        for (int i = 6; i <= 40; i++) {
            Due.due("telling", x.run(6, i), i);
        }
        Due.due("no 41st", x.run(6, 1), -1);
        Due.thrown("a wrong 41st", ARGUMENT, () -> x.run(6, 2001));
        x.hours(24);
        Due.due("the 40th counts", x.count(14), 60);
    }

    private static void silt() {
        SiltHarbour x = new SiltHarbour();
        x.run(0, 100);
        x.river(23, 23, 40, 20);
        x.river(22, 22, 20, 60);
        x.hours(24);
        Due.due("25 of 100 settle", x.cell(23, 2), 25);
        Due.due("3 of 75, rounded down", x.cell(22, 2), 3);
        Due.due("3 of 72", x.cell(21, 2), 3);
        Due.due("ran", x.count(14), 100);
        Due.due("all is somewhere", x.count(22) + x.count(15), 100);
        Due.due("the sea has some", x.count(15) > 0, true);
        Due.due("none away", x.count(16), 0);
    }

    private static void siltIsBounded() {
        SiltHarbour x = new SiltHarbour();
        x.run(0, 1000);
        x.river(23, 23, 200, 0);
        x.river(22, 22, 75, 20);
        x.river(21, 21, 74, 20);
        x.hours(24);
        Due.due("60 of 100 of 1000 settle", x.cell(23, 0), 188);
        Due.due("no heap", x.cell(23, 2), 0);
        Due.due("240 of 400: bed", x.cell(22, 0), 71);
        Due.due("240 of 400: heap", x.cell(22, 2), 40);
        Due.due("59 of 100 of 160: bed", x.cell(21, 0), 73);
        Due.due("59 of 100 of 160: heap", x.cell(21, 2), 44);
    }

    private static void dredger() {
        SiltHarbour x = new SiltHarbour();
        Due.thrown("digs 0", ARGUMENT, () -> x.dredger(0));
        Due.thrown("digs 501", ARGUMENT, () -> x.dredger(501));
        for (int i = 0; i < 6; i++) {
            Due.due("dredger", x.dredger(i == 0 ? 1 : 500), i);
        }
        Due.thrown("a 7th", UnsupportedOperationException.class, () -> x.dredger(1));
        Due.thrown("a wrong 7th", ARGUMENT, () -> x.dredger(0));
        Due.thrown("no dredger", INDEX, () -> x.station(6, 0, 0));
        Due.thrown("no dredger below", INDEX, () -> x.station(-1, 0, 0));
        Due.thrown("no cell", INDEX, () -> x.station(0, 24, 0));
        Due.thrown("no cell below", INDEX, () -> x.station(0, -2, 0));
        Due.thrown("lays in none", INDEX, () -> x.station(0, 0, 24));
        Due.thrown("lays in none below", INDEX, () -> x.station(0, 0, -2));
        Due.due("as it was", x.station(0, -1, -1), false);
        Due.due("lays elsewhere", x.station(0, -1, 3), true);
        Due.due("again", x.station(0, -1, 3), false);
        Due.due("goes", x.station(0, 4, 3), true);
        Due.due("is laid up", x.station(0, -1, 3), true);
        x.hours(24);
        Due.due("none dug", x.count(23), 480);
        x.station(0, 4, -1);
        x.hours(24);
        Due.due("a foot", x.cell(4, 0), 21);
        Due.due("49 of it is there", x.cell(4, 2), 49);
        Due.due("1 away", x.count(16), 1);
    }

    private static void dredgerAtTheBottom() {
        SiltHarbour x = new SiltHarbour();
        x.river(0, 0, 198, 200);
        x.dredger(80);
        x.dredger(500);
        x.station(0, 0, -1);
        x.hours(24);
        Due.due("bed", x.cell(0, 0), 200);
        Due.due("heap", x.cell(0, 2), 20);
        x.hours(24);
        Due.due("no deeper", x.cell(0, 0), 200);
        Due.due("no heap", x.cell(0, 2), 0);
        Due.due("20 were all it took", x.count(16), 100);
        x.station(1, 0, 0);
        x.hours(24);
        Due.due("it takes none, lays none", x.cell(0, 2), 0);
        Due.due("none away", x.count(16), 100);
    }

    private static void dredgersLay() {
        SiltHarbour x = new SiltHarbour();
        x.dredger(100);
        x.dredger(30);
        x.station(0, 7, 8);
        x.station(1, 8, -1);
        x.hours(24);
        Due.due("dug two feet", x.cell(7, 0), 22);
        Due.due("laid 100, 30 of them taken", x.cell(8, 0), 19);
        Due.due("the heap", x.cell(8, 2), 20);
        Due.due("away", x.count(16), 30);
        SiltHarbour y = new SiltHarbour();
        y.dredger(120);
        y.station(0, 5, 5);
        y.hours(24);
        Due.due("what is laid where it was dug", y.cell(5, 0), 20);
        Due.due("comes back", y.cell(5, 2), 0);
        Due.due("none is away", y.count(16), 0);
    }

    private static void shallowHeap() {
        SiltHarbour x = new SiltHarbour();
        x.river(9, 9, 1, 0);
        x.dredger(200);
        x.station(0, 10, 9);
        x.hours(24);
        Due.due("bed no less than 0", x.cell(9, 0), 0);
        Due.due("the heap grows", x.cell(9, 2), 150);
    }

    private static void theBar() {
        SiltHarbour x = new SiltHarbour();
        x.river(0, 0, 100, 20);
        x.run(0, 1000);
        x.hours(24);
        int left = 1000;
        for (int c = 23; c > 0; c--) {
            left -= left * 5 / 100;
        }
        int settles = left * 60 / 100;
        Due.due("cell 0 silts", x.cell(0, 0), 100 - settles / 50);
        Due.due("its heap", x.cell(0, 2), settles % 50);
        Due.due("the rest goes to the sea", x.count(15), left - settles);
        SiltHarbour y = new SiltHarbour();
        y.dredger(60);
        y.station(0, 1, 0);
        y.hours(24);
        Due.due("laid in cell 0", y.cell(0, 0), 19);
        Due.due("its heap", y.cell(0, 2), 10);
        Due.due("none away", y.count(16), 0);
        y.station(0, 0, 23);
        y.hours(24);
        Due.due("dug there", y.cell(0, 0), 20);
        Due.due("no heap", y.cell(0, 2), 0);
        Due.due("laid in cell 23", y.cell(23, 0), 19);
    }

    private static void soundings() {
        SiltHarbour x = new SiltHarbour();
        Due.thrown("cell 24", INDEX, () -> x.sound(24, 9, 0));
        Due.thrown("cell -1", INDEX, () -> x.sound(-1, 0, 0));
        Due.thrown("day -1", ARGUMENT, () -> x.sound(0, -1, 0));
        Due.thrown("day 1", ARGUMENT, () -> x.sound(0, 1, 0));
        Due.thrown("depth -1", ARGUMENT, () -> x.sound(0, 0, -1));
        Due.thrown("depth 251", ARGUMENT, () -> x.sound(0, 0, 251));
        for (int i = 0; i < 200; i++) {
            Due.due("sounding", x.sound(i % 24, 0, i), i);
        }
        Due.due("no 201st", x.sound(0, 0, 250), -1);
        Due.thrown("a wrong 201st", ARGUMENT, () -> x.sound(0, 0, 251));
        Due.due("soundings", x.count(17), 200);
        Due.due("the last told of one day", x.cell(0, 3), 192);
    }

    private static void known() {
        SiltHarbour x = new SiltHarbour();
        x.river(4, 4, 33, 44);
        Due.thrown("cell 24", INDEX, () -> x.known(24, 0));
        Due.thrown("cell -1", INDEX, () -> x.known(-1, 0));
        Due.due("natural, not bed", x.known(4, 0), 44);
        x.hours(50);
        x.sound(4, 1, 30);
        Due.due("long ago", x.known(4, -5), 44);
        Due.due("ahead", x.known(4, 49), 44);
        Due.due("now", x.known(4, 50), 30);
        Due.due("later", x.known(4, 2000000000), 30);
        x.hours(10);
        x.sound(4, 0, 10);
        Due.due("an older day does not count", x.cell(4, 3), 30);
        x.hours(10);
        x.sound(4, 1, 31);
        x.sound(4, 2, 250);
        x.sound(4, 1, 32);
        Due.due("the latest day", x.cell(4, 3), 250);
        Due.due("as of 60", x.known(4, 60), 30);
        Due.due("as of 69", x.known(4, 69), 30);
        Due.due("as of 70", x.known(4, 70), 250);
        Due.due("another cell", x.known(5, 70), 20);
        x.sound(4, 2, 0);
        Due.due("the one told last", x.cell(4, 3), 0);
    }
}
