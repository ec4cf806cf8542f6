import java.util.NoSuchElementException;

/** Promises 2, 3, 20 to 25 and 35: the tape, texts, acts, votes, judgements and another act. */
public final class ActTest {
    private static final Class<?> INDEX = IndexOutOfBoundsException.class;
    private static final Class<?> ARGUMENT = IllegalArgumentException.class;
    private static final Class<?> STATE = IllegalStateException.class;
    private static final Class<?> FULL = UnsupportedOperationException.class;

    public static void main(String[] args) {
        tape();
        tapeIsUsedUp();
        rightTexts();
        wrongTexts();
        deepTexts();
        manyLines();
        conditions();
        dayOfAct();
        actDays();
        actThrows();
        actOfTheShip();
        proposals();
        votes();
        passing();
        closing();
        judge();
        judgeAnotherShip();
        another();
        Due.finish("ActTest");
    }

    private static SiltHarbour withPayer() {
        SiltHarbour x = new SiltHarbour();
        x.payer();
        return x;
    }

    /** A harbour in which a ship of payer 0 left in hour 2 and paid 100. */
    private static SiltHarbour afterPaying(String act) {
        SiltHarbour x = withPayer();
        x.berth(0, 900, 500, 50000);
        Due.act(x, 0, act);
        x.ship(0, 0, 1, 1, 1, 1, false, 1000);
        x.hours(2);
        Due.due("it is gone", x.led(0, 0), 4);
        return x;
    }

    private static void tape() {
        SiltHarbour x = new SiltHarbour();
        Due.due("no byte", x.end(1), false);
        Due.due("none", x.end(0), true);
        for (int i = 1; i <= 20; i++) {
            Due.due("feed", x.feed(0x20202020, 0x20202020, 0x20202020, 0x20202020, 0x20202020), 20 * i);
        }
        Due.due("401 are too many", x.feed(0, 0, 0, 0, 0), -1);
        Due.due("none came", x.end(401), false);
        Due.due("below 0", x.end(-1), false);
        Due.due("as many as it has", x.end(400), true);
        Due.due("399", x.end(399), true);
        Due.due("no longer 400", x.end(400), false);
        Due.due("full all the same", x.feed(0, 0, 0, 0, 0), -1);
        Due.due("381", x.end(381), true);
        Due.due("not quite", x.feed(0, 0, 0, 0, 0), -1);
        Due.due("380", x.end(380), true);
        Due.due("just", x.feed(0x746f6e20, 0x312020FF, 0x80000000, -1, 0), 400);
        Due.thrown("byte 255 is none", ARGUMENT, () -> x.act(0));
        Due.due("the highest byte first", x.fault(), 387);
    }

    private static void tapeIsUsedUp() {
        SiltHarbour x = withPayer();
        Due.text(x, "ton 5");
        Due.due("one line", x.act(0), 1);
        Due.due("the tape is empty", x.end(1), false);
        Due.due("an empty text", x.act(0), 0);
        Due.text(x, "tons 5");
        Due.thrown("a wrong text", ARGUMENT, () -> x.act(0));
        Due.due("fault", x.fault(), 0);
        Due.due("the tape is used up", x.end(1), false);
        Due.text(x, "ton");
        Due.thrown("a wrong day", ARGUMENT, () -> x.act(-1));
        Due.due("the text was not read", x.fault(), 0);
        Due.due("but is used up", x.end(1), false);
        Due.text(x, "ton 5");
        x.propose(0);
        Due.due("read and right", x.fault(), -1);
        Due.text(x, "ton 5 5");
        Due.thrown("a wrong text is told first", ARGUMENT, () -> x.propose(0));
        Due.due("fault 6", x.fault(), 6);
        Due.text(x, "ton 5");
        Due.thrown("a vote goes on", STATE, () -> x.propose(0));
        Due.due("used up", x.end(1), false);
        Due.due("it was read", x.fault(), -1);
        Due.text(x, "ton 5 if");
        Due.thrown("another, wrong", ARGUMENT, () -> x.another(0, true));
        Due.due("fault 8", x.fault(), 8);
        Due.due("used up", x.end(1), false);
    }

    private static void rightTexts() {
        String[] right = {"", " ", "    ", "ton 5", " ton 5 ", "ton5", "ton 000005", "ton 999999", "ship 0", "back 100",
            "back 0", "pass 100", "pass 0", "clear 50", "clear 0", "borrow 999999", "vote 7", "turn come", "turn tons",
            "turn long", "turn good", "turn come down", "turn good down ", "ton5if coal", "ton 5if(coal)",
            "ton 1 if coal or grain and timber or not cotton and ore or mail",
            "ship 1 if foreign", "back 1 if tons<5", "vote 1 if paid > 5 and last < 000007 or stay>0 or long <1",
            "ton 1;ship 2;back 3;vote 4;turn come;clear 5;pass 6;borrow 7", "ton 1 ; ton 1", "ton 1;ton 1 if (((coal)))",
            "ton 1 if not not coal", "ton 1 if not(not coal or(grain))and mail"};
        for (String text : right) {
            Due.due("fault of " + text, Due.faultOf(text), -1);
        }
        SiltHarbour x = new SiltHarbour();
        Due.due("no lines", Due.act(x, 0, "   "), 0);
        Due.due("eight", Due.act(x, 0, "ton 1;ship 2;back 3;vote 4;turn come;clear 5;pass 6;borrow 7"), 8);
        Due.due("lines of today", x.count(19), 8);
        Due.due("acts", x.count(18), 2);
    }

    private static void wrongTexts() {
        Object[][] wrong = {
            {"t", 0}, {"ton", 3}, {"ton ", 4}, {"  ton  ", 7}, {"tonn 5", 0}, {"tonz 5", 0}, {"xon 5", 0}, {"xhip 5", 0}, {"ton 5 if bail", 9}, {"ton 5 xf coal", 6}, {"turn xome", 5}, {"Ton 5", 0}, {"to n 5", 0}, {"5", 0},
            {"ton 1234567", 4}, {"ton  0000000", 5}, {"back 101", 5}, {"pass 101", 5}, {"clear 51", 6}, {"clear 999999", 6},
            {"ton 5 5", 6}, {"ton 5 coal", 6}, {"ton 5;", 6}, {"ton 5; ", 7}, {";", 0}, {" ;ton 5", 1}, {"ton 5;;", 6},
            {"ton 5 if", 8}, {"ton 5 if ", 9}, {"ton 5 if gold", 9}, {"ton 5 if if", 9}, {"ton 5 if come", 9},
            {"ton 5 ifcoal", 6}, {"ton 5 if coal grain", 14}, {"ton 5 if coal and", 17}, {"ton 5 if coal or", 16},
            {"ton 5 if coal andgrain", 14}, {"ton 5 if tons", 13}, {"ton 5 if tons 5", 14}, {"ton 5 if tons <", 15},
            {"ton 5 if tons = 5", 14}, {"ton 5 if tons << 5", 15}, {"ton 5 if tons < coal", 16},
            {"ton 5 if tons < 1000000", 16}, {"ton 5 if 5 < tons", 9}, {"ton 5 if (coal", 14}, {"ton 5 if (coal;", 14},
            {"ton 5 if coal)", 13}, {"ton 5 if ()", 10}, {"ton 5 if not", 12}, {"ton 5 if not and", 13},
            {"ton 5 if coal < 5", 14}, {"turn", 4}, {"turn stay", 5}, {"turn 5", 5}, {"turn down", 5},
            {"turn come up", 10}, {"turn come down down", 15}, {"turn come if coal", 10}, {"clear 5 if coal", 8},
            {"pass 5 if coal", 7}, {"borrow 5 if coal", 9}, {"borrow 5 down", 9}, {"ton -5", 4}, {"ton\t5", 3},
            {"ton 5\n", 5}, {"ton 5,ship 5", 5}, {"(ton 5)", 0}, {"if coal", 0}, {"coal", 0}, {"ton 5 if coal or;", 16},
            {"ton 5 if foreigners", 9}, {"ton 5 if fore", 9}, {"shipshape 5", 0}, {"ton 5 if coal and or", 18},
            {"ton 5\u0000", 5}, {"ton 5 \u00e4", 6}, {"ton 5 {", 6}, {"ton 5 `", 6}, {"ton 5 /", 6}, {"ton 5 :", 6}};
        for (Object[] w : wrong) {
            Due.due("fault of " + w[0], Due.faultOf((String) w[0]), (Integer) w[1]);
        }
    }

    private static void deepTexts() {
        String six = Due.times("(", 6);
        Due.due("six (", Due.faultOf("ton 1 if " + six + "coal" + Due.times(")", 6)), -1);
        Due.due("seven (", Due.faultOf("ton 1 if " + six + "(coal" + Due.times(")", 7)), 15);
        Due.due("six not", Due.faultOf("ton 1 if " + Due.times("not ", 6) + "coal"), -1);
        Due.due("seven not", Due.faultOf("ton 1 if " + Due.times("not ", 7) + "coal"), 33);
        Due.due("three of each", Due.faultOf("ton 1 if not(not(not(coal)))"), -1);
        Due.due("and one more", Due.faultOf("ton 1 if not(not(not(not coal)))"), 21);
        Due.due("not within one another", Due.faultOf("ton 1 if not coal and not coal and not coal and not coal"
            + " and not coal and not coal and not coal or (coal) or (coal) and (coal or (coal))"), -1);
        Due.due("deep, then deep again", Due.faultOf("ton 1 if ((((((coal)))))) and ((((((coal or ("), 44);
    }

    private static void manyLines() {
        String twenty = "ton 1" + Due.times(";ton 1", 19);
        SiltHarbour x = new SiltHarbour();
        Due.due("twenty", Due.act(x, 0, twenty), 20);
        Due.due("the 21st's first word", Due.faultOf(twenty + " ; ton 1"), 122);
        Due.due("more must come", Due.faultOf(twenty + ";  "), 122);
        Due.due("whatever it is", Due.faultOf(twenty + ";;"), 120);
        Due.due("behind the 20th", Due.faultOf(twenty + " x"), 120);
    }

    /** What a coal ship of 10 tons, 20 long, foreign, would pay by a condition: 1 or 0. */
    private static int holds(String condition) {
        SiltHarbour x = withPayer();
        Due.act(x, 0, "ship 1 if " + condition);
        x.ship(0, 0, 10, 20, 1, 1, true, 0);
        return x.judge(0, 0);
    }

    private static void conditions() {
        String[] so = {"coal", "foreign", "not grain", "coal or grain", "grain or coal", "coal and foreign", "tons > 9",
            "tons < 11", "long > 19", "long < 21", "stay < 1", "paid < 1", "last < 1", "not tons > 10", "not tons < 10",
            "coal or grain and mail", "grain and mail or coal", "not (coal and mail)", "not grain and coal",
            "(grain or coal) and (mail or foreign)", "not not coal", "not (not (coal or mail) or ore)",
            "mail or ore or timber or cotton or grain or coal", "coal and not ore and not mail and foreign",
            "grain and coal or grain and ore or coal and (mail or (foreign and (ore or tons > 5)))"};
        String[] notSo = {"grain", "timber", "cotton", "ore", "mail", "not foreign", "tons > 10", "tons < 10", "long > 20",
            "long < 20", "stay > 0", "paid > 0", "last > 0", "coal and grain", "(coal or grain) and mail",
            "mail or grain and ore", "mail or coal and ore", "not grain and mail", "not (grain or coal)", "not coal or mail", "not (coal) and coal"};
        for (String c : so) {
            Due.due(c, holds(c), 1);
        }
        for (String c : notSo) {
            Due.due(c, holds(c), 0);
        }
        SiltHarbour x = withPayer();
        Due.act(x, 0, "ship 1 if coal;ship 2 if grain;ship 4 if timber;ship 8 if cotton;ship 16 if ore;ship 32 if mail");
        for (int good = 0; good < 6; good++) {
            x.ship(0, good, 1, 1, 1, 1, false, 0);
            Due.due("good " + good, x.judge(good, 0), 1 << good);
        }
    }

    private static void dayOfAct() {
        SiltHarbour x = new SiltHarbour();
        Due.due("no lines ahead of any", x.count(19), 0);
        Due.act(x, 2, "ton 1;ton 1");
        Due.act(x, 1, "ton 1");
        Due.due("day 0", x.count(19), 0);
        x.hours(24);
        Due.due("day 1", x.count(19), 1);
        x.hours(24);
        Due.due("day 2", x.count(19), 2);
        Due.act(x, 2, "");
        Due.due("of one day the one that came last", x.count(19), 0);
        Due.due("acts", x.count(18), 3);
    }

    private static void actDays() {
        SiltHarbour x = new SiltHarbour();
        x.hours(48);
        Due.thrown("yesterday", ARGUMENT, () -> x.act(1));
        Due.thrown("1251", ARGUMENT, () -> x.act(1251));
        Due.thrown("propose yesterday", ARGUMENT, () -> x.propose(1));
        Due.thrown("propose 1251", ARGUMENT, () -> x.propose(1251));
        Due.due("today", x.act(2), 0);
        Due.due("the last day", x.act(1250), 0);
        Due.due("propose the last day", x.propose(1250), 0);
    }

    private static void actThrows() {
        SiltHarbour x = new SiltHarbour();
        for (int i = 0; i < 20; i++) {
            x.act(0);
        }
        Due.thrown("a 21st", FULL, () -> x.act(0));
        Due.thrown("a 21st to vote on", FULL, () -> x.propose(0));
        Due.text(x, "x");
        Due.thrown("a wrong one", ARGUMENT, () -> x.act(0));
        SiltHarbour y = afterPaying("ton 0");
        Due.due("who paid 0 did not pay", y.act(0), 0);
        SiltHarbour z = afterPaying("ton 1");
        Due.thrown("a payer paid", STATE, () -> z.act(0));
        Due.thrown("a wrong day is told first", ARGUMENT, () -> z.act(1251));
        for (int i = 0; i < 19; i++) {
            z.keep();
        }
        Due.due("none came", z.count(18), 1);
    }

    private static void actOfTheShip() {
        SiltHarbour x = withPayer();
        x.berth(0, 900, 500, 50000);
        x.ship(0, 0, 10, 1, 1, 1, false, 0);
        Due.act(x, 0, "ton 1");
        x.ship(0, 0, 10, 1, 1, 1, false, 0);
        Due.act(x, 0, "ton 2 if stay > 1;ship 3");
        x.ship(0, 0, 10, 1, 1, 1, false, 0);
        Due.due("ahead of any act", x.led(0, 6), 0);
        Due.due("by the act that was told ahead", x.led(1, 6), 10);
        Due.due("by the second", x.led(2, 6), 3);
        x.hours(2);
        Due.due("it stayed 2", x.led(2, 6), 23);
        x.hours(2);
        Due.due("all gone", x.count(6), 3);
        Due.due("paid by each one's act", x.count(11), 33);
        Due.due("as it left", x.led(2, 6), 23);
        Due.due("the first paid none", x.led(0, 6), 0);
        SiltHarbour y = withPayer();
        Due.act(y, 0, Due.times("ton 999999;", 19) + "ton 999999");
        y.ship(0, 0, 20000, 1, 1, 1, false, 0);
        Due.due("to 2000000000 at most", y.led(0, 6), 2000000000);
        Due.due("judged so, too", y.judge(0, 0), 2000000000);
    }

    private static void proposals() {
        SiltHarbour x = afterPaying("ship 100;vote 1 if paid > 0");
        Due.thrown("none to close", STATE, () -> x.close());
        Due.thrown("none to vote on", STATE, () -> x.vote(0, true));
        Due.thrown("no such payer, told first", INDEX, () -> x.vote(1, true));
        Due.text(x, "ton 1;ton 2;ton 3");
        Due.due("lines", x.propose(0), 3);
        Due.thrown("one at a time", STATE, () -> x.propose(0));
        Due.thrown("no such payer", INDEX, () -> x.vote(1, true));
        Due.thrown("no such payer below", INDEX, () -> x.vote(-1, true));
        x.payer();
        Due.due("a new payer has none", x.vote(1, false), 0);
        Due.due("votes", x.vote(0, true), 1);
        Due.due("once", x.vote(0, false), -1);
        Due.due("once, with none", x.vote(1, true), -1);
        Due.due("not in force yet", x.count(19), 2);
        Due.due("passes", x.close(), true);
        Due.due("in force", x.count(19), 3);
        Due.due("acts", x.count(18), 2);
        Due.thrown("closed", STATE, () -> x.vote(0, true));
        x.propose(0);
        Due.due("no votes by the new act", x.vote(0, true), 0);
        Due.due("0 is not above 0", x.close(), false);
        Due.due("acts still", x.count(18), 2);
    }

    private static void votes() {
        SiltHarbour x = afterPaying("ship 100;vote 1;vote 2 if paid > 99;vote 4 if paid > 100;vote 8 if last > 99;"
            + "vote 16 if coal or foreign or tons > 0 or long > 0 or stay > 0;vote 32 if tons < 1 and not coal");
        Due.due("paid", x.pays(0, 0), 100);
        Due.due("last", x.pays(0, 1), 0);
        Due.due("votes", x.pays(0, 2), 35);
        x.payer();
        Due.due("of one who paid none", x.pays(1, 2), 33);
        Due.pass(x, 2397);
        Due.due("paid in this year", x.pays(0, 0), 100);
        x.hours(1);
        Due.due("a new year", x.pays(0, 0), 0);
        Due.due("the one before", x.pays(0, 1), 100);
        Due.due("votes by last", x.pays(0, 2), 41);
        x.propose(1250);
        Due.due("so many said", x.vote(0, true), 41);
        Due.due("and against", x.vote(1, false), 33);
        Due.due("41 of 74", x.close(), true);
        Due.pass(x, 2400);
        Due.due("two years ago", x.pays(0, 1), 0);
        Due.due("all that it paid", x.pays(0, 4), 100);
        Due.thrown("no payer", INDEX, () -> x.pays(2, 9));
        Due.thrown("what 5", NoSuchElementException.class, () -> x.pays(0, 5));
        Due.thrown("what -1", NoSuchElementException.class, () -> x.pays(0, -1));
    }

    /** Whether a vote of 3 for and 1 against passes by a pass line. */
    private static boolean passes(String pass) {
        SiltHarbour x = afterPaying("ship 100;vote 1;vote 2 if paid > 0" + pass);
        x.payer();
        x.propose(0);
        x.vote(0, true);
        x.vote(1, false);
        return x.close();
    }

    private static void passing() {
        Due.due("by 50", passes(""), true);
        Due.due("by 74", passes(";pass 74"), true);
        Due.due("not by 75", passes(";pass 75"), false);
        Due.due("the last line", passes(";pass 0;pass 75"), false);
        Due.due("the last line, other", passes(";pass 75;pass 0"), true);
        SiltHarbour x = afterPaying("ship 100;vote 1");
        x.payer();
        x.propose(0);
        x.vote(0, true);
        x.vote(1, false);
        Due.due("half is not above 50", x.close(), false);
        x.propose(0);
        Due.due("no one said anything", x.close(), false);
        SiltHarbour y = afterPaying("ship 100;vote 1;pass 100");
        y.propose(0);
        y.vote(0, true);
        Due.due("never above 100", y.close(), false);
        Due.due("51 of 100", passesWith("vote 51 if paid > 0;vote 49 if paid < 1"), true);
        Due.due("50 of 100", passesWith("vote 50 if paid > 0;vote 50 if paid < 1"), false);
        Due.due("1 of 1", passesWith("vote 1 if paid > 0"), true);
        Due.due("by the act of the day on which it is closed", passesLater(), false);
    }

    private static boolean passesWith(String votes) {
        SiltHarbour x = afterPaying("ship 100;" + votes);
        x.payer();
        x.propose(0);
        x.vote(0, true);
        x.vote(1, false);
        return x.close();
    }

    private static boolean passesLater() {
        SiltHarbour x = withPayer();
        Due.act(x, 0, "vote 1");
        Due.act(x, 1, "vote 7;pass 100");
        x.propose(0);
        x.keep();
        Due.due("by the act of the day on which it is said", x.vote(0, true), 1);
        x.again();
        x.hours(24);
        Due.due("a day later", x.vote(0, true), 7);
        return x.close();
    }

    private static void closing() {
        SiltHarbour x = withPayer();
        Due.act(x, 0, "vote 1");
        Due.text(x, "ton 1;ton 2;vote 1");
        x.propose(1);
        x.vote(0, true);
        x.hours(72);
        Due.due("closed later", x.close(), true);
        Due.due("in force from today", x.count(19), 3);
        x.act(2 + 1);
        Due.act(x, 3, "vote 1");
        Due.text(x, "ton 1;ton 2");
        x.propose(5);
        x.vote(0, true);
        Due.due("passes", x.close(), true);
        Due.due("in force later", x.count(19), 1);
        x.hours(48);
        Due.due("now", x.count(19), 2);
        Due.act(x, 5, "vote 1");
        for (int i = x.count(18); i < 19; i++) {
            Due.act(x, 5, "vote 1");
        }
        x.propose(5);
        x.vote(0, true);
        Due.act(x, 5, "vote 1");
        Due.due("20 by then", x.close(), false);
        Due.due("20", x.count(18), 20);
    }

    private static void judge() {
        SiltHarbour x = withPayer();
        Due.act(x, 0, "back 5;ton 9 if grain;ship 8 if grain;back 30 if coal;back 20;ton 2 if coal;ton 3;ship 7;ship 1;ton 9 if stay > 0");
        x.ship(0, 0, 10, 20, 1, 1, false, 0);
        x.hours(3);
        Due.due("due", x.judge(0, 0), 58);
        Due.due("line of ton", x.judge(0, 1), 5);
        Due.due("line of ship", x.judge(0, 2), 7);
        Due.due("the greatest back", x.judge(0, 3), 30);
        Due.due("it owes more by its stay", x.led(0, 6), 148);
        Due.act(x, 0, "ton 1 if grain;back 7 if stay > 0;vote 3");
        Due.due("the act of today", x.judge(0, 0), 0);
        Due.due("no line of ton", x.judge(0, 1), -1);
        Due.due("no line of ship", x.judge(0, 2), -1);
        Due.due("no back", x.judge(0, 3), 0);
        Due.thrown("no ship", INDEX, () -> x.judge(1, 9));
        Due.thrown("no ship below", INDEX, () -> x.judge(-1, 0));
        Due.thrown("what 4", NoSuchElementException.class, () -> x.judge(0, 4));
        Due.thrown("what -1", NoSuchElementException.class, () -> x.judge(0, -1));
    }

    private static void judgeAnotherShip() {
        SiltHarbour x = withPayer();
        Due.act(x, 0, "ton 1 if coal;ship 1 if grain;back 9 if timber");
        for (int good = 0; good < 3; good++) {
            x.ship(0, good, 1, 1, 1, 1, false, 0);
        }
        for (int what = 1; what < 4; what++) {
            for (int s = 0; s < 3; s++) {
                int want = s == what - 1 ? new int[] {0, 1, 9}[s] : what == 3 ? 0 : -1;
                Due.due("ship " + s + ", what " + what, x.judge(s, what), want);
            }
        }
        Due.act(x, 0, "back 9");
        Due.due("the first line, too", x.judge(0, 3), 9);
        Due.act(x, 0, "ship 9");
        Due.due("the first line is 0", x.judge(0, 2), 0);
    }

    private static int another(SiltHarbour x, String text, int year, boolean elsewhere) {
        Due.text(x, text);
        return x.another(year, elsewhere);
    }

    private static void another() {
        SiltHarbour x = withPayer();
        x.berth(0, 900, 5, 50000);
        x.berth(0, 900, 5, 50000);
        x.ship(0, 0, 10, 1, 1, 1, false, 30);
        x.ship(0, 1, 20, 1, 1, 1, true, 61);
        x.ship(0, 2, 5, 1, 1, 1, false, 0);
        x.hours(10);
        Due.due("three left", x.count(6), 3);
        x.ship(0, 2, 2000, 1, 1, 1, false, 1000000);
        x.hours(5);
        Due.due("3 a ton: 30 and 60, 15 is too much for the third", another(x, "ton 3", 0, false), 90);
        Due.due("one elsewhere", another(x, "ton 3", 0, true), 1);
        Due.due("62 is above 61", another(x, "ton 3;ship 2 if foreign", 0, false), 30);
        Due.due("two elsewhere", another(x, "ton 3;ship 2 if foreign", 0, true), 2);
        Due.due("by the stay they had", another(x, "ship 1 if stay > 3 and not timber", 0, false), 1);
        Due.due("none in year 1", another(x, "ton 3", 1, false), 0);
        Due.due("none elsewhere in year 1", another(x, "ton 3", 1, true), 0);
        Due.due("no year -1", another(x, "ton 3", -1, true), 0);
        Due.due("no text brings none", another(x, "", 0, false), 0);
        Due.due("nothing changed", x.count(18), 0);
        Due.due("no dues", x.count(11), 0);
        Due.act(x, 0, "ton 2 if stay > 3;ship 5");
        x.ship(0, 5, 10, 1, 1, 1, false, 1000000);
        x.hours(3);
        Due.due("the stay from its coming", x.led(4, 6), 5);
        Due.due("it left", x.led(4, 5), 18);
        Due.due("by another, too", another(x, "ship 7 if mail and stay < 4", 0, false), 7);
        Due.pass(x, 2400 - 18);
        Due.due("the fourth left in year 0", x.led(3, 0), 4);
        Due.due("and counts", another(x, "ton 3 if tons > 100", 0, false), 6000);
    }
}
