import java.util.function.Supplier;

/** Harbours to which something is refused; none takes more than 280 calls to make. */
final class Harbours {
    static final Supplier<SiltHarbour> NEW = SiltHarbour::new;
    /** HOUR 37, day 1: something of every kind goes on, an image is kept, a VOTE goes on, the TAPE holds a text. */
    static final Supplier<SiltHarbour> BUSY = () -> busy(30);
    /** HOUR 2407, day 100, YEAR 1: likewise, and a PAYER has paid. */
    static final Supplier<SiltHarbour> OLD = () -> busy(2400);
    /** HOUR 30000, the last one. */
    static final Supplier<SiltHarbour> LAST = Harbours::last;
    /** 40 tellings of RUN, 6 DREDGERS, 200 SOUNDINGS. */
    static final Supplier<SiltHarbour> FULL_RIVER = Harbours::fullRiver;
    /** 10 BERTHS, 30 PAYERS, 80 SHIPS. */
    static final Supplier<SiltHarbour> FULL_PORT = Harbours::fullPort;
    /** 20 ACTS, and a VOTE that began with 19 of them. */
    static final Supplier<SiltHarbour> FULL_LAWS = Harbours::fullLaws;
    /** 20 ACTS, and no VOTE. */
    static final Supplier<SiltHarbour> TWENTY_ACTS = Harbours::twentyActs;
    /** 20 BONDS and 6 WORKS. */
    static final Supplier<SiltHarbour> FULL_PURSE = Harbours::fullPurse;
    /** A PAYER paid 100, no VOTE goes on. */
    static final Supplier<SiltHarbour> PAID = Harbours::paid;

    static SiltHarbour busy(int hours) {
        SiltHarbour x = new SiltHarbour();
        x.river(0, 23, 25, 22);
        x.river(7, 9, 30, 33);
        for (int h = 0; h < 25; h++) {
            x.tide(h, h * 7 % 11 - 5);
        }
        x.run(0, 300);
        x.run(1, 700);
        x.run(3, 90);
        x.dredger(40);
        x.dredger(70);
        x.station(0, 3, 4);
        x.station(1, 8, -1);
        x.sound(2, 0, 30);
        x.payer();
        x.payer();
        x.payer();
        x.berth(0, 100, 10, 20);
        x.berth(13, 600, 10, 20);
        x.berth(6, 70, 100, 90);
        x.hands(3, 2);
        Due.act(x, 0, "ton 1;ship 3 if stay > 20;vote 1;vote 2 if last > 0;borrow 5000;back 50;turn good;clear 3");
        x.cash(100);
        x.bond(1000, 2000, 7, 1);
        x.bond(1000, 1000, 3, 2);
        x.bond(700, 1500, 5, 1);
        x.work(10, 2, 0, 5);
        x.work(50, 20, 3, 15);
        for (int i = 0; i < 9; i++) {
            x.ship(i % 2, (i + 4) % 6, 17 * (i + 1), i == 4 ? 500 : 50 + i, 15 + i % 3, 10 + i % 5, i % 3 == 0, 50 * i);
        }
        Due.text(x, "vote 3;ton 2;clear 4;turn long");
        x.propose(3);
        x.vote(0, true);
        Due.pass(x, hours);
        x.sound(1, hours / 24, 26);
        x.back(0);
        x.keep();
        Due.text(x, "ton 5 if (coal");
        Due.thrown("a wrong text", IllegalArgumentException.class, () -> x.another(0, true));
        x.cash(7);
        x.hours(7);
        Due.text(x, "ton 7;ship 3 if foreign");
        return x;
    }

    private static SiltHarbour last() {
        SiltHarbour x = new SiltHarbour();
        x.payer();
        x.berth(0, 100, 10, 20);
        Due.act(x, 0, "ton 1;borrow 5000;vote 1");
        Due.pass(x, 29990);
        x.ship(0, 0, 100, 50, 5, 5, false, 10);
        x.ship(0, 0, 100, 50, 5, 5, false, 10);
        x.hours(10);
        return x;
    }

    private static SiltHarbour fullRiver() {
        SiltHarbour x = new SiltHarbour();
        for (int i = 0; i < 40; i++) {
            x.run(i % 5, 10 * i);
        }
        for (int i = 0; i < 6; i++) {
            x.dredger(10 + i);
        }
        x.station(5, 4, 3);
        for (int i = 0; i < 200; i++) {
            x.sound(i % 24, 0, i);
        }
        return x;
    }

    private static SiltHarbour fullPort() {
        SiltHarbour x = new SiltHarbour();
        for (int i = 0; i < 10; i++) {
            x.berth(2 * i, 100 + i, 10, 100);
        }
        for (int i = 0; i < 30; i++) {
            x.payer();
        }
        for (int i = 0; i < 80; i++) {
            x.ship(i % 30, i % 6, 20 + i, 30 + i, 5, 5, false, 100);
        }
        x.hours(3);
        return x;
    }

    private static SiltHarbour fullLaws() {
        SiltHarbour x = new SiltHarbour();
        x.payer();
        for (int i = 0; i < 19; i++) {
            Due.act(x, i / 2, "vote 1;ton 1");
        }
        Due.text(x, "vote 5");
        x.propose(0);
        Due.act(x, 0, "vote 2;ton 1;ton 1");
        return x;
    }

    private static SiltHarbour twentyActs() {
        SiltHarbour x = new SiltHarbour();
        x.payer();
        for (int i = 0; i < 20; i++) {
            Due.act(x, i / 2, "vote 1;ton 1");
        }
        return x;
    }

    private static SiltHarbour fullPurse() {
        SiltHarbour x = new SiltHarbour();
        Due.act(x, 0, "borrow 500");
        for (int i = 0; i < 20; i++) {
            x.bond(1 + i, 100 * i, i % 10, 1 + i);
        }
        for (int i = 0; i < 6; i++) {
            x.work(10 * i, 7 * i, i, i);
        }
        return x;
    }

    private static SiltHarbour paid() {
        SiltHarbour x = new SiltHarbour();
        x.payer();
        x.payer();
        x.berth(0, 900, 500, 50000);
        Due.act(x, 0, "ship 100;vote 1;vote 2 if paid > 0;back 50");
        x.ship(0, 0, 1, 1, 1, 1, false, 1000);
        x.hours(2);
        x.keep();
        return x;
    }

    private Harbours() {
    }
}
