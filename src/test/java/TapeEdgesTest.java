/** The boundary cases of promises 2 and 3, sentence by sentence: the TAPE. */
public final class TapeEdgesTest {
    private static final Class<?> ARGUMENT = IllegalArgumentException.class;
    private static final int BLANKS = 0x20202020;

    public static void main(String[] args) {
        theHighestByteFirst();
        behindTheTape();
        howManyItHas();
        noneComeBeyond400();
        refusedFeedLeavesTheTape();
        firstBytesAlone();
        fewerOrBelowNone();
        refusedEndLeavesTheTape();
        cutBytesDoNotComeBack();
        Due.finish("TapeEdgesTest");
    }

    private static int feedBlanks(SiltHarbour x) {
        return x.feed(BLANKS, BLANKS, BLANKS, BLANKS, BLANKS);
    }

    /** Twenty blanks, but for one byte. */
    private static int feedOne(SiltHarbour x, int at, int sign) {
        int[] n = {BLANKS, BLANKS, BLANKS, BLANKS, BLANKS};
        int shift = 24 - 8 * (at % 4);
        n[at / 4] = n[at / 4] & ~(255 << shift) | sign << shift;
        return x.feed(n[0], n[1], n[2], n[3], n[4]);
    }

    /** "Twenty bytes come .. of each number the highest first": a wrong byte is where it was put. */
    private static void theHighestByteFirst() {
        for (int at = 0; at < 20; at++) {
            for (int sign : new int[] {0, 'X', 127, 128, 160, 255}) {
                SiltHarbour x = new SiltHarbour();
                Due.due("feed of 20", feedOne(x, at, sign), 20);
                Due.thrown("sign " + sign + " is wrong", ARGUMENT, () -> x.act(0));
                Due.due("sign " + sign + " at " + at, x.fault(), at);
            }
        }
        SiltHarbour x = new SiltHarbour();
        x.feed(0x73686970, 0x20393837, 0x3635343b, 0x7475726e, 0x20636f6d);
        x.feed(0x65202020, BLANKS, BLANKS, BLANKS, BLANKS);
        Due.due("ship 987654;turn com and e", x.act(0), 2);
        x.payer();
        x.ship(0, 0, 1, 1, 1, 1, false, 0);
        Due.due("each digit in its place", x.judge(0, 0), 987654);
    }

    /** "Twenty bytes come behind the TAPE". */
    private static void behindTheTape() {
        for (int feeds = 1; feeds < 20; feeds++) {
            SiltHarbour x = new SiltHarbour();
            for (int i = 0; i < feeds; i++) {
                feedBlanks(x);
            }
            feedOne(x, feeds % 20, '!');
            Due.thrown("a wrong byte", ARGUMENT, () -> x.act(0));
            Due.due("behind " + 20 * feeds, x.fault(), 20 * feeds + feeds % 20);
        }
    }

    /** "how many it has". */
    private static void howManyItHas() {
        SiltHarbour x = new SiltHarbour();
        for (int i = 1; i <= 20; i++) {
            Due.due("feed " + i, feedBlanks(x), 20 * i);
        }
        Due.due("a text of 400 blanks has no LINE", x.act(0), 0);
        Due.due("used up: 20 again", feedBlanks(x), 20);
        x.end(7);
        Due.due("behind 7", feedBlanks(x), 27);
    }

    /** "NONE, and none come, if it would have more than 400": from every length. */
    private static void noneComeBeyond400() {
        for (int length = 378; length <= 400; length++) {
            SiltHarbour x = new SiltHarbour();
            for (int i = 0; i < 20; i++) {
                feedBlanks(x);
            }
            x.end(length);
            Due.due("feed to " + length, feedBlanks(x), length <= 380 ? length + 20 : -1);
            int now = length <= 380 ? length + 20 : length;
            Due.due("no more than " + now, x.end(now + 1), false);
            Due.due("as many as " + now, x.end(now), true);
        }
    }

    private static SiltHarbour withText(String text) {
        SiltHarbour x = new SiltHarbour();
        Due.text(x, text);
        return x;
    }

    private static void refusedFeedLeavesTheTape() {
        String longest = "ship 5;ton 7" + Due.times(" ", 387) + "!";
        Look.refused("feed to 400", -1, () -> withText(longest), x -> x.feed(1, 2, 3, 4, 5));
        Look.refused("feed to 381", -1, () -> withText(longest.substring(0, 381)), x -> x.feed(1, 2, 3, 4, 5));
        SiltHarbour x = withText(longest);
        x.feed(0, 0, 0, 0, 0);
        Due.thrown("the last of 400 is wrong", ARGUMENT, () -> x.act(0));
        Due.due("there", x.fault(), 399);
    }

    /** "The TAPE has its first n bytes alone: true". */
    private static void firstBytesAlone() {
        for (int n = 0; n <= 40; n++) {
            SiltHarbour x = new SiltHarbour();
            feedBlanks(x);
            feedOne(x, 19, '!');
            Due.due("end " + n, x.end(n), true);
            Due.due("has " + n, feedBlanks(x), n + 20);
            if (n < 40) {
                Due.due("the wrong byte 39 is gone", x.act(0), 0);
            } else {
                Due.thrown("the wrong byte 39 is there", ARGUMENT, () -> x.act(0));
            }
        }
        SiltHarbour y = withText("ton 5;ship 7");
        Due.due("its first 5", y.end(5), true);
        Due.due("one LINE", y.act(0), 1);
    }

    /** "false, and nothing happens, if it has fewer, or n is below 0". */
    private static void fewerOrBelowNone() {
        int[] none = {-1, -2, -20, Integer.MIN_VALUE, Integer.MAX_VALUE, 1, 400};
        for (int n : none) {
            Due.due("an empty TAPE has no " + n, new SiltHarbour().end(n), false);
        }
        Due.due("an empty TAPE has 0", new SiltHarbour().end(0), true);
        for (int n : new int[] {-1, 21, 22, 400, 401, Integer.MIN_VALUE, Integer.MAX_VALUE}) {
            SiltHarbour x = new SiltHarbour();
            feedBlanks(x);
            Due.due("20 bytes, end " + n, x.end(n), false);
        }
        SiltHarbour full = withText(Due.times(" ", 400));
        Due.due("400 of 400", full.end(400), true);
        Due.due("401 of 400", full.end(401), false);
    }

    private static void refusedEndLeavesTheTape() {
        Look.refused("end(6) of 5", false, () -> withText("ton 5"), x -> x.end(6));
        Look.refused("end(-1) of 5", false, () -> withText("ton 5"), x -> x.end(-1));
        Look.refused("end(1) of 0", false, Harbours.NEW, x -> x.end(1));
        Look.refused("end(-1) of 0", false, Harbours.NEW, x -> x.end(-1));
        Look.refused("end(24) of 23", false, Harbours.BUSY, x -> x.end(24));
        Look.refused("end(23) of 23 cuts none", true, Harbours.BUSY, x -> x.end(23));
    }

    private static void cutBytesDoNotComeBack() {
        SiltHarbour x = withText("ton 5 if coal");
        x.end(5);
        Due.due("no longer 6", x.end(6), false);
        x.feed(0x3b736869, 0x70203720, BLANKS, BLANKS, BLANKS);
        Due.due("ton 5;ship 7", x.act(0), 2);
        x.payer();
        x.ship(0, 3, 2, 1, 1, 1, false, 0);
        Due.due("without what was cut", x.judge(0, 0), 17);
    }
}
