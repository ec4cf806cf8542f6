import java.util.Arrays;

/** What the tests share: counting wrong answers, feeding texts, making harbours. */
final class Due {
    private static int wrong = 0;
    private static int asked = 0;

    interface Call {
        void make();
    }

    static void due(String call, long got, long want) {
        asked++;
        if (got != want) {
            wrong++;
            System.out.println(call + " answered " + got + ", due is " + want);
        }
    }

    static void due(String call, boolean got, boolean want) {
        due(call, got ? 1 : 0, want ? 1 : 0);
    }

    static void same(String call, Object got, Object want) {
        asked++;
        if (!got.equals(want)) {
            wrong++;
            System.out.println(call + " answered " + got + ", due is " + want);
        }
    }

    /** The very class is asked for: a subclass would be one that the machine threw. */
    static void thrown(String call, Class<?> want, Call made) {
        asked++;
        Class<?> got = null;
        try {
            made.make();
        } catch (RuntimeException e) {
            got = e.getClass();
        }
        if (got != want) {
            wrong++;
            System.out.println(call + " threw " + got + ", due is " + want);
        }
    }

    /** Puts a text on the tape, which must be empty. */
    static void text(SiltHarbour x, String text) {
        byte[] bytes = new byte[text.length()];
        for (int i = 0; i < bytes.length; i++) {
            bytes[i] = (byte) text.charAt(i);
        }
        for (int from = 0; from < bytes.length; from += 20) {
            byte[] part = Arrays.copyOf(Arrays.copyOfRange(bytes, from, Math.min(bytes.length, from + 20)), 20);
            x.feed(word(part, 0), word(part, 4), word(part, 8), word(part, 12), word(part, 16));
        }
        due("end of a text", x.end(bytes.length), true);
    }

    private static int word(byte[] part, int at) {
        return (part[at] & 255) << 24 | (part[at + 1] & 255) << 16 | (part[at + 2] & 255) << 8 | part[at + 3] & 255;
    }

    static int act(SiltHarbour x, int day, String text) {
        text(x, text);
        return x.act(day);
    }

    /** The fault of a text; NONE if it is right. */
    static int faultOf(String text) {
        SiltHarbour x = new SiltHarbour();
        text(x, text);
        try {
            x.act(0);
        } catch (IllegalArgumentException e) {
            due("a thrown text has a fault: " + text, x.fault() >= 0, true);
            return x.fault();
        }
        due("a right text has no fault: " + text, x.fault(), -1);
        return SiltHarbour.NONE;
    }

    static void pass(SiltHarbour x, int hours) {
        int left = hours;
        while (left > 0) {
            int part = Math.min(120, left);
            x.hours(part);
            left -= part;
        }
    }

    static String times(String part, int n) {
        StringBuilder all = new StringBuilder();
        for (int i = 0; i < n; i++) {
            all.append(part);
        }
        return all.toString();
    }

    static void finish(String test) {
        System.out.println(test + ": " + asked + " answers, " + wrong + " not as due");
        if (wrong != 0 || asked == 0) {
            System.exit(1);
        }
    }

    private Due() {
    }
}
