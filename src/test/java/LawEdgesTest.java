import java.util.NoSuchElementException;
import java.util.function.Supplier;

/** The boundary cases of promises 20 to 25 and 35, sentence by sentence: ACTS, VOTES, judgements, ANOTHER ACT. */
public final class LawEdgesTest {
    private static final Class<?> INDEX = IndexOutOfBoundsException.class;
    private static final Class<?> ARGUMENT = IllegalArgumentException.class;
    private static final Class<?> STATE = IllegalStateException.class;
    private static final Class<?> FULL = UnsupportedOperationException.class;
    private static final Class<?> ELEMENT = NoSuchElementException.class;
    private static final int LEAST = Integer.MIN_VALUE;
    private static final int MOST = Integer.MAX_VALUE;

    public static void main(String[] args) {
        actTakes();
        actRefuses();
        actOrder();
        the20thAct();
        aPayerPaid();
        theActOfADay();
        aShipsAct();
        proposeTakes();
        proposeRefuses();
        proposeOrder();
        voteOnce();
        voteRefuses();
        votesOfADay();
        closePasses();
        closeIsAbove();
        closeWith20Acts();
        closeFromItsDay();
        closeRefuses();
        judgeAnswers();
        judgeRefuses();
        anotherOnAYear();
        anotherAboveMost();
        anotherRefuses();
        Due.finish("LawEdgesTest");
    }

    private static Object actOf(SiltHarbour x, int day, String text) {
        x.end(0);
        Due.text(x, text);
        return x.act(day);
    }

    private static Object proposeOf(SiltHarbour x, int day, String text) {
        x.end(0);
        Due.text(x, text);
        return x.propose(day);
    }

    private static int another(SiltHarbour x, int year, boolean elsewhere, String text) {
        x.end(0);
        Due.text(x, text);
        return x.another(year, elsewhere);
    }

    /** "for a DAY (TODAY's or later, to 1250)". */
    private static void actTakes() {
        SiltHarbour x = new SiltHarbour();
        Due.due("DAY 0", x.act(0), 0);
        Due.due("DAY 1250", x.act(1250), 0);
        x.hours(71);
        Due.due("TODAY in its last HOUR", actOf(x, 2, "ton 1;ton 1").equals(2), true);
        x.hours(1);
        Due.due("TODAY in its first HOUR", actOf(x, 3, "ton 1").equals(1), true);
        Due.due("tomorrow", actOf(x, 4, "").equals(0), true);
        Due.due("acts", x.count(18), 5);
        SiltHarbour last = Harbours.LAST.get();
        Due.due("the last DAY", last.act(1250), 0);
    }

    private static void actRefuses() {
        for (int day : new int[] {-1, 1251, LEAST, MOST}) {
            Look.refusedText("act on " + day, ARGUMENT, -1, Harbours.NEW, x -> actOf(x, day, "ton 1"));
            Look.refusedText("act on " + day + ", wrong, too: it is not read", ARGUMENT, -1, Harbours.NEW, x -> actOf(x, day, "wrong"));
            Look.refusedText("act later on " + day, ARGUMENT, 14, Harbours.BUSY, x -> x.act(day));
        }
        Look.refusedText("act yesterday", ARGUMENT, 14, Harbours.BUSY, x -> actOf(x, 0, "ton 1"));
        Look.refusedText("act on DAY 99 of 100", ARGUMENT, 14, Harbours.OLD, x -> actOf(x, 99, "ton 1"));
        Look.refusedText("act on DAY 1249 at last", ARGUMENT, -1, Harbours.LAST, x -> actOf(x, 1249, "ton 1"));
        Look.refusedText("a wrong text", ARGUMENT, 6, Harbours.NEW, x -> actOf(x, 0, "ton 5 wrong"));
        Look.refusedText("a wrong text later", ARGUMENT, 3, Harbours.BUSY, x -> actOf(x, 1, "ton"));
    }

    /** The DAY, then the text, then a PAYER paid, then there are 20. */
    private static void actOrder() {
        Look.refusedText("a PAYER paid", STATE, -1, Harbours.PAID, x -> actOf(x, 0, "ton 1"));
        Look.refusedText("a PAYER paid, the text is wrong", ARGUMENT, 4, Harbours.PAID, x -> actOf(x, 0, "ton x"));
        Look.refusedText("a PAYER paid, the DAY is none", ARGUMENT, -1, Harbours.PAID, x -> actOf(x, 1251, "ton x"));
        Look.refusedText("there are 20", FULL, -1, Harbours.TWENTY_ACTS, x -> actOf(x, 0, "ton 1"));
        Look.refusedText("there are 20, the text is wrong", ARGUMENT, 4, Harbours.TWENTY_ACTS, x -> actOf(x, 0, "ton x"));
        Look.refusedText("there are 20, the DAY is none", ARGUMENT, -1, Harbours.TWENTY_ACTS, x -> actOf(x, -1, "ton x"));
        Supplier<SiltHarbour> both = () -> {
            SiltHarbour x = new SiltHarbour();
            x.payer();
            x.berth(0, 900, 500, 500);
            for (int i = 0; i < 20; i++) {
                Due.act(x, 0, "ship 1");
            }
            x.ship(0, 0, 1, 1, 1, 1, false, 0);
            x.hours(2);
            return x;
        };
        Look.refusedText("a PAYER paid, and there are 20", STATE, -1, both, x -> actOf(x, 0, "ton 1"));
    }

    /** "ACTS (at most 20)". */
    private static void the20thAct() {
        SiltHarbour x = new SiltHarbour();
        for (int i = 1; i <= 20; i++) {
            Due.act(x, 0, i == 20 ? "ton 1;ton 1" : "ton 1");
            Due.due("ACTS", x.count(18), i);
        }
        Due.due("the 20th is in force", x.count(19), 2);
        Due.thrown("no 21st", FULL, () -> x.act(0));
        Due.thrown("nor for a later DAY", FULL, () -> x.act(1250));
        Due.due("20", x.count(18), 20);
    }

    /** "as long as no PAYER ever paid more than 0". */
    private static void aPayerPaid() {
        SiltHarbour x = new SiltHarbour();
        x.payer();
        x.payer();
        x.berth(0, 900, 500, 500);
        Due.act(x, 0, "ship 1 if coal");
        x.ship(0, 1, 1, 1, 1, 1, false, 0);
        x.hours(2);
        Due.due("it paid 0", x.led(0, 0), 4);
        Due.due("so an ACT comes at once", x.act(1250), 0);
        x.ship(1, 0, 1, 1, 1, 1, false, 0);
        x.hours(1);
        Due.due("it has not paid yet", x.act(1250), 0);
        x.hours(1);
        Due.due("it paid 1", x.pays(1, 4), 1);
        Due.thrown("no more at once", STATE, () -> x.act(1250));
        Due.pass(x, 4800);
        Due.due("neither paid", x.pays(1, 0), 0);
        Due.due("nor last is above 0", x.pays(1, 1), 0);
        Due.thrown("ever", STATE, () -> x.act(1250));
        Due.due("a VOTE may begin", x.propose(1250), 0);
    }

    /** "that of the latest such DAY up to it, of several the one that came last; ahead of any it has no LINES". */
    private static void theActOfADay() {
        SiltHarbour x = new SiltHarbour();
        Due.due("no ACT", x.count(19), 0);
        Due.act(x, 3, "ton 1;ton 1;ton 1");
        Due.act(x, 1, "ton 1");
        Due.act(x, 3, "ton 1;ton 1;ton 1;ton 1");
        Due.act(x, 2, "ton 1;ton 1");
        Due.act(x, 1250, "ton 1;ton 1;ton 1;ton 1;ton 1");
        int[] lines = {0, 1, 2, 4, 4, 4};
        for (int day = 0; day < lines.length; day++) {
            Due.due("LINES of DAY " + day, x.count(19), lines[day]);
            x.hours(23);
            Due.due("LINES in the last HOUR of DAY " + day, x.count(19), lines[day]);
            x.hours(1);
        }
        Due.pass(x, 29999 - x.count(0));
        Due.due("DAY 1249", x.count(19), 4);
        x.hours(1);
        Due.due("DAY 1250", x.count(19), 5);
    }

    /** "by the ACT of the DAY on which it came, as it was told by the calls ahead of its ship(), whatever is told later". */
    private static void aShipsAct() {
        SiltHarbour x = new SiltHarbour();
        x.payer();
        x.hands(0, 0);
        x.ship(0, 0, 1, 1, 1, 1, false, 0);
        Due.act(x, 1, "ship 1");
        x.ship(0, 0, 1, 1, 1, 1, false, 0);
        Due.act(x, 0, "ship 2");
        x.ship(0, 0, 1, 1, 1, 1, false, 0);
        x.hours(23);
        x.ship(0, 0, 1, 1, 1, 1, false, 0);
        x.hours(1);
        x.ship(0, 0, 1, 1, 1, 1, false, 0);
        Due.act(x, 1, "ship 4;back 50");
        x.ship(0, 0, 1, 1, 1, 1, false, 0);
        x.hours(48);
        int[] due = {0, 0, 2, 2, 1, 4};
        for (int s = 0; s < due.length; s++) {
            Due.due("DUE of " + s, x.led(s, 6), due[s]);
            Due.due("judged by TODAY's " + s, x.judge(s, 0), 4);
        }
    }

    private static void proposeTakes() {
        SiltHarbour x = new SiltHarbour();
        Due.due("DAY 0, though none has paid", proposeOf(x, 0, "ton 1;ton 2").equals(2), true);
        Due.due("it is no ACT yet", x.count(18), 0);
        Due.due("closed without a word", x.close(), false);
        Due.due("DAY 1250", x.propose(1250), 0);
        x.close();
        x.hours(71);
        Due.due("TODAY", x.propose(2), 0);
        x.close();
        SiltHarbour y = Harbours.PAID.get();
        Due.due("though a PAYER paid", y.propose(0), 0);
        SiltHarbour z = new SiltHarbour();
        for (int i = 0; i < 19; i++) {
            z.act(0);
        }
        Due.due("with 19 ACTS", z.propose(0), 0);
    }

    private static void proposeRefuses() {
        for (int day : new int[] {-1, 1251, LEAST, MOST}) {
            Look.refusedText("propose on " + day, ARGUMENT, -1, Harbours.PAID, x -> proposeOf(x, day, "ton 1"));
            Look.refusedText("propose on " + day + ", not read", ARGUMENT, -1, Harbours.PAID, x -> proposeOf(x, day, "wrong"));
        }
        Supplier<SiltHarbour> noVote = () -> {
            SiltHarbour x = Harbours.BUSY.get();
            x.close();
            return x;
        };
        Look.refusedText("propose yesterday", ARGUMENT, 14, noVote, x -> proposeOf(x, 0, "ton 1"));
        Look.refusedText("a wrong text", ARGUMENT, 5, noVote, x -> proposeOf(x, 1, "ship "));
        Look.refusedText("a VOTE goes on", STATE, -1, Harbours.BUSY, x -> proposeOf(x, 1, "ship 5"));
        Look.refusedText("there are 20", FULL, -1, Harbours.TWENTY_ACTS, x -> proposeOf(x, 1, "ship 5"));
    }

    /** The DAY, then the text, then a VOTE goes on, then there are 20. */
    private static void proposeOrder() {
        Look.refusedText("a VOTE goes on, the text is wrong", ARGUMENT, 5, Harbours.BUSY, x -> proposeOf(x, 1, "ship !"));
        Look.refusedText("a VOTE goes on, the DAY is none", ARGUMENT, 14, Harbours.BUSY, x -> proposeOf(x, 0, "ship !"));
        Look.refusedText("a VOTE goes on, and there are 20", STATE, -1, Harbours.FULL_LAWS, x -> proposeOf(x, 0, "ship 5"));
        Look.refusedText("there are 20, the text is wrong", ARGUMENT, 0, Harbours.TWENTY_ACTS, x -> proposeOf(x, 0, "!"));
        Look.refusedText("there are 20, the DAY is none", ARGUMENT, -1, Harbours.TWENTY_ACTS, x -> proposeOf(x, -1, "!"));
        SiltHarbour x = Harbours.PAID.get();
        x.propose(0);
        x.close();
        Due.due("one at a time, so another behind it", x.propose(0), 0);
    }

    /** "A PAYER says yes or no: its VOTES; NONE, and it does not count, if it said so." */
    private static void voteOnce() {
        for (boolean first : new boolean[] {true, false}) {
            for (boolean second : new boolean[] {true, false}) {
                SiltHarbour x = Harbours.PAID.get();
                x.propose(0);
                Due.due("PAYER 0", x.vote(0, first), 3);
                Due.due("once", x.vote(0, second), -1);
                Due.due("and no more", x.vote(0, second), -1);
                Due.due("PAYER 1", x.vote(1, !first), 1);
                Due.due("once, too", x.vote(1, first), -1);
                Due.due("the first word counts", x.close(), first);
            }
        }
        Supplier<SiltHarbour> said = () -> {
            SiltHarbour x = Harbours.PAID.get();
            x.propose(0);
            x.vote(0, false);
            return x;
        };
        Look.refused("said so", -1, said, x -> x.vote(0, true));
        SiltHarbour y = said.get();
        y.close();
        y.propose(0);
        Due.due("in the next VOTE again", y.vote(0, true), 3);
        Due.due("passes", y.close(), true);
    }

    private static void voteRefuses() {
        for (int payer : new int[] {-1, 3, LEAST, MOST}) {
            Look.refused("vote of " + payer, INDEX, Harbours.BUSY, x -> x.vote(payer, true));
        }
        Look.refused("no VOTE goes on", STATE, Harbours.PAID, x -> x.vote(0, true));
        Look.refused("no such PAYER is told first", INDEX, Harbours.PAID, x -> x.vote(2, true));
        Look.refused("no such PAYER is told first, below", INDEX, Harbours.PAID, x -> x.vote(-1, true));
        Due.due("the last PAYER", Harbours.BUSY.get().vote(2, true), 1);
    }

    /** "the VOTES that the ACT of that DAY gives it (WORDS and tons, long, stay are 0 there ..)". */
    private static void votesOfADay() {
        SiltHarbour x = Harbours.PAID.get();
        x.propose(50);
        Due.text(x, "vote 1");
        Due.due("by what it paid", x.pays(0, 2), 3);
        Due.due("one who paid none", x.pays(1, 2), 1);
        String[] facts = {"coal", "grain", "timber", "cotton", "ore", "mail", "foreign", "tons > 0", "long > 0", "stay > 0", "paid > 0", "last > 0"};
        for (String fact : facts) {
            SiltHarbour y = new SiltHarbour();
            y.payer();
            Due.act(y, 0, "vote 1 if " + fact + ";vote 2 if not " + fact + ";vote 4;vote 8 if tons<0 or long<0 or stay<0 or paid<0 or last<0");
            Due.due("all is 0 for " + fact, y.pays(0, 2), 6);
            y.propose(0);
            Due.due("said with as many", y.vote(0, true), 6);
        }
        SiltHarbour z = new SiltHarbour();
        z.payer();
        Due.act(z, 0, "vote 5");
        Due.act(z, 1, "vote 7");
        z.propose(1250);
        z.payer();
        z.hours(23);
        Due.due("on DAY 0", z.vote(0, true), 5);
        z.hours(1);
        Due.due("on DAY 1", z.vote(1, false), 7);
        Due.due("5 of 12", z.close(), false);
        SiltHarbour w = new SiltHarbour();
        w.payer();
        Due.act(w, 0, Due.times("vote 999999;", 19) + "vote 999999");
        Due.due("the most VOTES", w.pays(0, 2), 19999980);
        w.propose(0);
        w.vote(0, true);
        Due.due("all are for it", w.close(), true);
    }

    /** Whether yes of so many passes against so many by a pass LINE. */
    private static boolean passes(int yes, int no, String pass) {
        SiltHarbour x = new SiltHarbour();
        x.payer();
        x.payer();
        x.berth(0, 900, 500, 500);
        Due.act(x, 0, "ship 1;vote " + yes + " if paid > 0;vote " + no + " if paid < 1" + pass);
        x.ship(0, 0, 1, 1, 1, 1, false, 0);
        x.hours(2);
        x.propose(0);
        Due.due("yes", x.vote(0, true), yes);
        Due.due("no", x.vote(1, false), no);
        boolean passed = x.close();
        Due.due("ACTS", x.count(18), passed ? 2 : 1);
        return passed;
    }

    /** "it passes, if yes times 100 is above pass (.. 50 without) times all that was said". */
    private static void closePasses() {
        int[][] votes = {{0, 0, 50, 0}, {1, 0, 50, 1}, {0, 1, 50, 0}, {50, 50, 50, 0}, {51, 49, 50, 1}, {51, 50, 50, 1}, {50, 51, 50, 0}, {999999, 999999, 50, 0},
            {999999, 999998, 50, 1}, {1, 99, 0, 1}, {0, 99, 0, 0}, {0, 0, 0, 0}, {1, 0, 100, 0}, {1, 0, 99, 1}, {99, 1, 99, 0}, {100, 1, 99, 1},
            {2, 1, 66, 1}, {2, 1, 67, 0}, {1, 2, 33, 1}, {1, 2, 34, 0}, {1, 3, 25, 0}, {1, 3, 24, 1}};
        for (int[] v : votes) {
            Due.due(v[0] + " against " + v[1] + " by " + v[2], passes(v[0], v[1], ";pass " + v[2]), v[3] == 1);
            if (v[2] == 50) {
                Due.due(v[0] + " against " + v[1] + " without a LINE", passes(v[0], v[1], ""), v[3] == 1);
            }
        }
    }

    /** "the last such LINE of the ACT of that DAY". */
    private static void closeIsAbove() {
        Due.due("the last is 75", passes(3, 1, ";pass 0;pass 75"), false);
        Due.due("the last is 74", passes(3, 1, ";pass 100;pass 74"), true);
        SiltHarbour x = new SiltHarbour();
        x.payer();
        Due.act(x, 0, "vote 1;pass 100");
        Due.act(x, 1, "vote 1;pass 0");
        x.propose(1250);
        x.vote(0, true);
        x.keep();
        Due.due("by 100 on DAY 0", x.close(), false);
        x.again();
        x.hours(23);
        x.keep();
        Due.due("in its last HOUR", x.close(), false);
        x.again();
        x.hours(1);
        Due.due("by 0 on DAY 1", x.close(), true);
    }

    /** "not, if there are 20 ACTS by then". */
    private static void closeWith20Acts() {
        SiltHarbour x = Harbours.FULL_LAWS.get();
        Due.due("all are for it", x.vote(0, true), 2);
        Due.due("but there are 20", x.close(), false);
        Due.due("still 20", x.count(18), 20);
        Due.due("as it was", x.count(19), 3);
        Due.thrown("the VOTE is over", STATE, () -> x.close());
        SiltHarbour y = new SiltHarbour();
        y.payer();
        for (int i = 0; i < 19; i++) {
            Due.act(y, 0, "vote 1");
        }
        Due.text(y, "vote 1;ton 1");
        y.propose(0);
        y.vote(0, true);
        Due.due("with 19 it passes", y.close(), true);
        Due.due("20", y.count(18), 20);
        Due.due("in force", y.count(19), 2);
    }

    /** "else the ACT is in force from its DAY, or TODAY's, if that is later". */
    private static void closeFromItsDay() {
        for (int day = 0; day <= 4; day++) {
            SiltHarbour x = new SiltHarbour();
            x.payer();
            Due.act(x, 0, "vote 1");
            Due.act(x, 2, "vote 1;ton 1;ton 1");
            Due.text(x, "vote 1;ton 1");
            x.propose(day);
            x.vote(0, true);
            x.hours(48);
            Due.due("passes", x.close(), true);
            for (int today = 2; today <= 5; today++) {
                Due.due("for DAY " + day + " closed on 2, in force on " + today, x.count(19), today >= day ? 2 : 3);
                x.hours(24);
            }
        }
        SiltHarbour y = new SiltHarbour();
        y.payer();
        Due.act(y, 0, "vote 1");
        Due.text(y, "vote 1;ton 1");
        y.propose(0);
        y.vote(0, true);
        y.hours(24);
        Due.act(y, 1, "vote 1;ton 1;ton 1");
        Due.due("passes", y.close(), true);
        Due.due("it came last, for TODAY", y.count(19), 2);
    }

    private static void closeRefuses() {
        Look.refused("none goes on", STATE, Harbours.NEW, x -> x.close());
        Look.refused("none goes on, though a PAYER paid", STATE, Harbours.PAID, x -> x.close());
        SiltHarbour x = Harbours.BUSY.get();
        Due.due("1 of 1", x.close(), true);
        Due.thrown("it is over", STATE, () -> x.close());
        Due.thrown("no VOTE in it", STATE, () -> x.vote(1, true));
    }

    /** "What a SHIP would owe, if it came TODAY and left at once, by which LINE". */
    private static void judgeAnswers() {
        SiltHarbour x = new SiltHarbour();
        x.payer();
        x.berth(0, 900, 500, 500);
        x.ship(0, 3, 10, 20, 1, 1, false, 0);
        int[] none = {0, -1, -1, 0};
        for (int what = 0; what < 4; what++) {
            Due.due("without an ACT " + what, x.judge(0, what), none[what]);
        }
        Due.act(x, 0, "ton 9 if stay<0;ship 9 if stay<0;back 9 if stay<0;ton 9 if paid<0;back 9 if last<0");
        for (int what = 0; what < 4; what++) {
            Due.due("stay, paid and last are 0, not below " + what, x.judge(0, what), none[what]);
        }
        Due.act(x, 0, "ton 0;ship 0;back 0");
        int[] zero = {0, 0, 1, 0};
        for (int what = 0; what < 4; what++) {
            Due.due("LINES of 0 hold " + what, x.judge(0, what), zero[what]);
        }
        String twenty = Due.times("ton 1 if coal;", 17) + "back 100;ship 3 if stay<1;ton 2";
        Due.act(x, 0, twenty);
        int[] last = {23, 19, 18, 100};
        x.hours(1);
        for (int what = 0; what < 4; what++) {
            Due.due("the last LINES " + what, x.judge(0, what), last[what]);
        }
        x.hours(40);
        Due.due("of one that is GONE", x.led(0, 0), 4);
        for (int what = 0; what < 4; what++) {
            Due.due("as if it came TODAY " + what, x.judge(0, what), last[what]);
        }
        Due.act(x, 2, "ship 7");
        Due.due("tomorrow's counts not yet", x.judge(0, 0), 23);
        x.hours(7);
        Due.due("TODAY's", x.judge(0, 0), 7);
        SiltHarbour y = new SiltHarbour();
        y.payer();
        Due.act(y, 0, "ton 100000;ship 0;ship 99999 if mail");
        y.ship(0, 5, 19999, 1, 1, 1, false, 0);
        y.ship(0, 0, 20000, 1, 1, 1, false, 0);
        y.ship(0, 5, 20000, 1, 1, 1, false, 0);
        Due.due("below 2000000000", y.judge(0, 0), 1999999999);
        Due.due("just so much", y.judge(1, 0), 2000000000);
        Due.due("at most", y.judge(2, 0), 2000000000);
        Due.due("led, too: below", y.led(0, 6), 1999999999);
        Due.due("led, too: at most", y.led(2, 6), 2000000000);
    }

    private static void judgeRefuses() {
        SiltHarbour x = Harbours.BUSY.get();
        for (int ship : new int[] {-1, 9, LEAST, MOST}) {
            Look.refused("judge of " + ship, INDEX, Harbours.BUSY, y -> y.judge(ship, 0));
            Due.thrown("no SHIP is told first", INDEX, () -> x.judge(ship, 4));
        }
        for (int what : new int[] {-1, 4, LEAST, MOST}) {
            Look.refused("judge what " + what, ELEMENT, Harbours.BUSY, y -> y.judge(0, what));
            Due.thrown("what " + what + " of the last", ELEMENT, () -> x.judge(8, what));
        }
        Look.refused("judge changes nothing", x.judge(8, 0), Harbours.BUSY, y -> y.judge(8, 0));
    }

    /** "on the SHIPS that are GONE by leaving in the YEAR that is told". */
    private static void anotherOnAYear() {
        SiltHarbour x = new SiltHarbour();
        x.payer();
        x.berth(0, 900, 500, 500);
        Due.pass(x, 2397);
        x.ship(0, 0, 1, 1, 1, 1, false, 1000);
        x.hours(2);
        Due.due("one left in HOUR 2399", x.led(0, 5), 2399);
        x.ship(0, 0, 10, 1, 1, 1, false, 1000);
        x.hours(1);
        x.ship(0, 0, 100, 1, 1, 1, false, 1000);
        x.hours(1);
        Due.due("one left in HOUR 2401", x.led(1, 5), 2401);
        Due.due("one is there still", x.led(2, 0), 3);
        Due.due("YEAR 0", another(x, 0, false, "ton 1"), 1);
        Due.due("YEAR 1", another(x, 1, false, "ton 1"), 10);
        x.hours(1);
        Due.due("YEAR 1, both", another(x, 1, false, "ton 1"), 110);
        for (int year : new int[] {-1, 2, 12, 13, LEAST, MOST}) {
            Due.due("YEAR " + year, another(x, year, false, "ton 1"), 0);
            Due.due("none elsewhere in YEAR " + year, another(x, year, true, "ton 999999"), 0);
        }
        Due.due("none of none", another(new SiltHarbour(), 0, false, "ton 1"), 0);
        Due.due("an empty text", another(x, 0, false, ""), 0);
        Due.due("by the stay that it had", another(x, 0, false, "ship 5 if stay < 3 and stay > 1"), 5);
        Due.due("nothing changes", x.count(18), 0);
        SiltHarbour y = new SiltHarbour();
        y.payer();
        y.berth(0, 900, 500, 500);
        Due.pass(y, 2398);
        y.ship(0, 0, 1, 1, 1, 1, false, 1000);
        y.hours(2);
        Due.due("one left in HOUR 2400", y.led(0, 5), 2400);
        Due.due("which is of YEAR 1", another(y, 1, false, "ton 1"), 1);
        Due.due("not of YEAR 0", another(y, 0, false, "ton 1"), 0);
    }

    /** "those whose DUE by it .. is above their MOST: they bring nothing". */
    private static void anotherAboveMost() {
        SiltHarbour x = new SiltHarbour();
        x.payer();
        x.berth(0, 900, 500, 500);
        int[] most = {0, 99, 100, 101, 1000000};
        for (int m : most) {
            x.ship(0, 0, 20, 1, 1, 1, false, m);
        }
        x.hours(24);
        Due.due("all are GONE", x.count(6), 5);
        Due.due("100: three bear it", another(x, 0, false, "ton 5"), 300);
        Due.due("two do not", another(x, 0, true, "ton 5"), 2);
        Due.due("0: all bear it", another(x, 0, true, "ton 0"), 0);
        Due.due("1: one does not", another(x, 0, true, "ship 1"), 1);
        Due.due("1000000: one bears it", another(x, 0, false, "ton 50000"), 1000000);
        Due.due("four do not", another(x, 0, true, "ton 50000"), 4);
        Due.due("1000001: none does", another(x, 0, false, "ton 50000;ship 1"), 0);
        Due.due("all go elsewhere", another(x, 0, true, "ton 50000;ship 1"), 5);
        Due.due("however much it is", another(x, 0, true, Due.times("ton 999999;", 19) + "ton 999999"), 5);
        Due.due("and bring nothing", another(x, 0, false, Due.times("ton 999999;", 19) + "ton 999999"), 0);
    }

    private static void anotherRefuses() {
        for (boolean elsewhere : new boolean[] {false, true}) {
            Look.refusedText("a wrong text", ARGUMENT, 4, Harbours.NEW, x -> another(x, 0, elsewhere, "ton x"));
            Look.refusedText("a wrong text of no YEAR", ARGUMENT, 4, Harbours.BUSY, x -> another(x, -1, elsewhere, "ton x"));
            Look.refusedText("a right one changes nothing", another(Harbours.BUSY.get(), 0, elsewhere, "ton 1"), -1, Harbours.BUSY,
                x -> another(x, 0, elsewhere, "ton 1"));
        }
    }
}
