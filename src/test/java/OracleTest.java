import java.lang.reflect.InvocationTargetException;
import java.lang.reflect.Method;
import java.util.Arrays;
import java.util.HashMap;
import java.util.Map;
import java.util.Random;

/** Runs of 512 calls by chance (always the same ones) on SiltHarbour and on Oracle, which must answer alike. */
public final class OracleTest {
    private static final Map<String, Method> REAL = methods(SiltHarbour.class);
    private static final Map<String, Method> PLAIN = methods(Oracle.class);
    private static final Map<String, Integer> SEEN = new HashMap<>();

    /** Nothing is promised of an object behind so many. */
    private static final int CALLS = 512;

    private final Random chance;
    private final SiltHarbour real = new SiltHarbour();
    private final Oracle plain = new Oracle();
    private final StringBuilder told = new StringBuilder();
    private final int run;
    /** How often an argument is out of its bounds, in hundredths. */
    private final int wrong;
    private final int berths;
    private final int longest;
    private int berthsMade;
    private int depth;
    private int calls;
    /** What there is, by the answers of the calls that made it, so that it need not be counted. */
    private int hour;
    private int berthsNow;
    private int ships;
    private int bonds;

    private OracleTest(int run) {
        this.run = run;
        chance = new Random(run);
        wrong = run % 4 == 0 ? 8 : 1;
        berths = 1 + chance.nextInt(run % 5 == 0 ? 10 : 3);
        longest = run % 3 == 0 ? 120 : run % 3 == 1 ? 6 : 30;
    }

    public static void main(String[] args) {
        int runs = args.length > 0 ? Integer.parseInt(args[0]) : 320;
        int first = args.length > 1 ? Integer.parseInt(args[1]) : 0;
        for (int run = first; run < first + runs; run++) {
            new OracleTest(run).play();
        }
        if (args.length > 0) {
            SEEN.entrySet().stream().sorted(Map.Entry.comparingByKey())
                .forEach(e -> System.out.println(e.getKey() + " " + e.getValue()));
        }
        Due.finish("OracleTest");
    }

    private static Map<String, Method> methods(Class<?> c) {
        Map<String, Method> all = new HashMap<>();
        for (Method m : c.getDeclaredMethods()) {
            if (java.lang.reflect.Modifier.isPublic(m.getModifiers())) {
                all.put(m.getName(), m);
            }
        }
        return all;
    }

    private static Object answer(Object on, Method m, Object[] args) {
        try {
            Object got = m.invoke(on, args);
            return got instanceof Boolean b ? (b ? 1 : 0) : got;
        } catch (InvocationTargetException e) {
            if (e.getCause() instanceof RuntimeException) {
                return e.getCause().getClass().getName();
            }
            throw new AssertionError(e.getCause());
        } catch (IllegalAccessException e) {
            throw new AssertionError(e);
        }
    }

    private Object call(String name, Object... args) {
        calls++;
        Object got = answer(real, REAL.get(name), args);
        Object want = answer(plain, PLAIN.get(name), args);
        told.append(name).append(Arrays.toString(args)).append(" -> ").append(got).append('\n');
        String kind = want instanceof String ? (String) want : want == null ? "void" : (Integer) want < 0 ? "NONE" : (Integer) want == 0 ? "zero" : "more";
        SEEN.merge(name + " " + kind, 1, Integer::sum);
        boolean same = got == null ? want == null : got.equals(want);
        Due.due("run " + run + " " + name + Arrays.toString(args) + ": " + got + ", by the oracle " + want, same, true);
        if (!same) {
            System.out.println(told);
            Due.finish("OracleTest");
        }
        if (got instanceof Integer n && n >= 0) {
            note(name, n);
        }
        return got;
    }

    private void note(String name, int answer) {
        switch (name) {
            case "hours":
                hour = answer;
                break;
            case "berth":
                berthsNow = answer + 1;
                break;
            case "ship":
                ships = answer + 1;
                break;
            case "bond":
                bonds = answer + 1;
                break;
            case "again":
                hour = counted(0);
                berthsNow = counted(3);
                ships = counted(4);
                bonds = counted(20);
                break;
            default:
        }
    }

    private int from(int least, int most) {
        if (chance.nextInt(100) < wrong && chance.nextInt(4) == 0) {
            int[] odd = {least - 1, most + 1, Integer.MIN_VALUE, Integer.MAX_VALUE};
            return odd[chance.nextInt(4)];
        }
        if (chance.nextInt(12) == 0) {
            return chance.nextBoolean() ? least : most;
        }
        return least + chance.nextInt(most - least + 1);
    }

    private int below(int size) {
        return size == 0 || chance.nextInt(100) < wrong ? from(-1, size) : chance.nextInt(size);
    }

    private void play() {
        begin();
        while (calls < CALLS - 130) {
            step();
            if (chance.nextInt(10) == 0) {
                look(5);
            }
        }
        look(CALLS - calls);
        Due.due("run " + run + " is no longer than it may be", calls <= CALLS, true);
    }

    private int counted(int what) {
        return (Integer) call("count", what);
    }

    private void begin() {
        depth = 10 + chance.nextInt(40);
        call("river", 0, 23, depth, depth + chance.nextInt(9) - 4);
        for (int i = 0; i < 4; i++) {
            int a = chance.nextInt(24);
            call("river", a, a + chance.nextInt(24 - a), depth + chance.nextInt(7) - 3, depth + chance.nextInt(7) - 3);
        }
        for (int h = 0; h < 25; h += 1 + run % 3) {
            call("tide", h, (int) Math.round(6 * Math.sin(h / 2.0)) + chance.nextInt(3));
        }
        call("run", 0, from(0, 2000));
        for (int i = 0; i < 3; i++) {
            call("payer");
        }
        for (int i = 0; i < berths; i++) {
            makeBerth();
        }
        if (run % 6 == 5) {
            call("hands", chance.nextInt(3), chance.nextInt(2));
        }
        call("cash", from(0, 1000));
        feedText(chance.nextInt(6) == 0 ? "" : text());
        call("act", 0);
    }

    private void makeBerth() {
        if (berthsMade < berths) {
            berthsMade++;
            call("berth", from(0, 23), from(chance.nextInt(4) == 0 ? 1 : 300, 900), from(1, run % 2 == 0 ? 50 : 500), from(1, chance.nextBoolean() ? 200 : 50000));
        }
    }

    private void step() {
        int what = chance.nextInt(100);
        if (what < 25) {
            call("hours", chance.nextInt(20) == 0 ? from(0, 120) : from(0, longest));
        } else if (what < 45) {
            call("ship", below(3), from(0, 5), from(1, chance.nextInt(5) == 0 ? 20000 : 300), from(1, chance.nextInt(8) == 0 ? 900 : 300),
                from(1, depth + (chance.nextInt(9) == 0 ? 9 : 0)), from(1, depth - 3), chance.nextBoolean(), from(0, chance.nextBoolean() ? 3000 : 1000000));
        } else if (what < 52) {
            call("back", below(ships));
        } else if (what < 70) {
            lawStep();
        } else if (what < 80) {
            moneyStep();
        } else if (what < 90) {
            riverStep();
        } else {
            planStep();
        }
    }

    private void lawStep() {
        int day = hour / 24;
        switch (chance.nextInt(9)) {
            case 0:
                feedText(text());
                call("act", from(day, Math.min(1250, day + 3)));
                break;
            case 1:
            case 2:
                feedText(text());
                call("propose", from(day, Math.min(1250, day + 3)));
                break;
            case 3:
            case 4:
            case 5:
                call("vote", below(3), chance.nextInt(3) > 0);
                break;
            case 6:
                call("close");
                break;
            case 7:
                feedText(text());
                call("another", hour / 2400 - chance.nextInt(2), chance.nextBoolean());
                break;
            default:
                call("feed", chance.nextInt(), chance.nextInt(), chance.nextInt(), chance.nextInt(), chance.nextInt());
                call("end", from(-1, 21));
        }
        call("fault");
    }

    private void moneyStep() {
        switch (chance.nextInt(6)) {
            case 0:
                call("cash", from(0, 2000));
                break;
            case 1:
            case 2:
                call("bond", from(1, 3000), from(0, 2000), from(0, 9), from(1, chance.nextBoolean() ? 3 : 30));
                break;
            case 3:
                call("work", from(0, 1000), from(0, 100), from(0, 29), from(0, 100));
                break;
            case 4:
                call("worth", from(0, 2000), chance.nextInt(70) - 3);
                break;
            default:
                call("best", from(0, 2000));
        }
    }

    private void riverStep() {
        int day = hour / 24;
        switch (chance.nextInt(8)) {
            case 0:
                call("run", from(day, Math.min(1250, day + 5)), from(0, 2000));
                break;
            case 1:
                call("dredger", from(1, 500));
                break;
            case 2:
                call("station", below(3), from(-1, 23), from(-1, 23));
                break;
            case 3:
            case 4: {
                int c = chance.nextInt(24);
                call("sound", below(24), Math.max(0, day - chance.nextInt(3)), (Integer) call("cell", c, 0) + chance.nextInt(9) - 2);
                call("sound", from(0, 23), from(0, day), from(0, 250));
                break;
            }
            case 5:
                call("tide", from(0, 24), from(-20, 30));
                break;
            case 6:
                call("known", below(24), from(0, hour));
                call("river", 0, 1, 20, 20);
                break;
            default:
                call("hands", chance.nextInt(5) == 0 ? from(0, 20) : chance.nextInt(4), chance.nextInt(5) == 0 ? from(0, 100) : chance.nextInt(5));
        }
    }

    private void planStep() {
        switch (chance.nextInt(7)) {
            case 0:
            case 1:
                call("bring");
                break;
            case 2:
                call("window", below(ships), below(berthsNow), chance.nextBoolean());
                break;
            case 3:
                call("judge", below(ships), from(0, 3));
                break;
            case 4:
                call("keep");
                break;
            case 5:
                if (chance.nextInt(3) == 0) {
                    call("again");
                }
                break;
            default:
                if (chance.nextBoolean()) {
                    call("payer");
                } else {
                    makeBerth();
                }
        }
    }

    private void look(int questions) {
        for (int i = 0; i < questions; i++) {
            switch (chance.nextInt(10)) {
                case 0:
                case 1:
                    call("count", from(0, 23));
                    break;
                case 2:
                    call("cell", below(24), from(0, 3));
                    break;
                case 3:
                case 4:
                case 5:
                    call("led", below(ships), from(0, 9));
                    break;
                case 6:
                    call("quay", below(berthsNow), from(0, 5));
                    break;
                case 7:
                    call("pays", below(3), from(0, 4));
                    break;
                case 8:
                    call("owes", below(bonds), from(0, 3));
                    break;
                default:
                    lookAtPlans();
            }
        }
    }

    private void lookAtPlans() {
        switch (chance.nextInt(5)) {
            case 0:
                call("bring");
                break;
            case 1:
                call("window", below(ships), below(berthsNow), chance.nextBoolean());
                break;
            case 2:
                call("worth", from(0, 2000), chance.nextInt(70) - 3);
                break;
            case 3:
                call("known", below(24), chance.nextInt(200));
                break;
            default:
                call("judge", below(ships), from(0, 3));
        }
    }

    // ---- texts by chance

    private String pick(String... of) {
        return of[chance.nextInt(of.length)];
    }

    private String text() {
        StringBuilder s = new StringBuilder();
        int lines = chance.nextInt(10) == 0 ? chance.nextInt(23) : chance.nextInt(8);
        for (int i = 0; i < lines && s.length() < 380; i++) {
            s.append(i == 0 ? "" : ";").append(line());
        }
        // most acts let payers vote and the board borrow
        if (chance.nextInt(3) > 0) {
            s.append(lines == 0 ? "" : ";").append(pick("vote 1;borrow 9000;pass 30", "vote 5;vote 3 if paid>50;borrow 4000", "vote 2 if last>0;vote 1"));
        }
        if (chance.nextInt(5) == 0 && s.length() > 0) {
            int at = chance.nextInt(s.length());
            switch (chance.nextInt(4)) {
                case 0:
                    s.deleteCharAt(at);
                    break;
                case 1:
                    s.setCharAt(at, pick(" ", ";", "(", ")", "<", ">", "7", "a", "z", "\u00ff", "A").charAt(0));
                    break;
                case 2:
                    s.insert(at, pick(" ", ";", "(", "not ", " and ", "9", "or", "if "));
                    break;
                default:
                    s.setLength(at);
            }
        }
        return s.length() > 400 ? s.substring(0, 400) : s.toString();
    }

    private String gap() {
        return pick("", " ", " ", "  ");
    }

    private String line() {
        switch (chance.nextInt(14)) {
            case 0:
                return "turn " + pick("come", "tons", "long", "good") + pick("", " down", " down ");
            case 1:
                return "clear " + chance.nextInt(chance.nextInt(6) == 0 ? 53 : 9);
            case 2:
                return "pass " + chance.nextInt(chance.nextInt(6) == 0 ? 103 : 60);
            case 3:
                return "borrow " + chance.nextInt(20000);
            case 4:
                return "vote " + chance.nextInt(50) + given();
            case 5:
            case 6:
                return "back" + gap() + chance.nextInt(chance.nextInt(6) == 0 ? 103 : 101) + given();
            case 7:
            case 8:
            case 9:
                return gap() + "ship " + chance.nextInt(chance.nextInt(9) == 0 ? 1000003 : 300) + given();
            default:
                return "ton" + gap() + chance.nextInt(chance.nextInt(9) == 0 ? 1000003 : 9) + given();
        }
    }

    private String given() {
        return chance.nextInt(3) == 0 ? gap() : " if " + any(chance.nextInt(8) == 0 ? 0 : 3);
    }

    private String any(int deep) {
        return all(deep) + (chance.nextInt(3) == 0 ? " or " + all(deep) : "") + (chance.nextInt(8) == 0 ? " or " + all(deep) : "");
    }

    private String all(int deep) {
        return atom(deep) + (chance.nextInt(3) == 0 ? " and " + atom(deep) : "");
    }

    private String atom(int deep) {
        int what = chance.nextInt(10);
        if (what < 2 && deep < 8) {
            return "not " + atom(deep + 1);
        }
        if (what < 4 && deep < 8) {
            return "(" + gap() + any(deep + 1) + gap() + ")";
        }
        if (what < 7) {
            return pick("coal", "grain", "timber", "cotton", "ore", "mail", "foreign");
        }
        return pick("tons", "long", "stay", "paid", "last") + gap() + pick("<", ">") + gap() + chance.nextInt(chance.nextInt(4) == 0 ? 1000 : 60);
    }

    private void feedText(String text) {
        call("end", 0);
        for (int from = 0; from < text.length(); from += 20) {
            int[] words = new int[5];
            for (int i = 0; i < 20; i++) {
                int at = from + i;
                words[i / 4] = words[i / 4] << 8 | (at < text.length() ? text.charAt(at) : 0);
            }
            call("feed", words[0], words[1], words[2], words[3], words[4]);
        }
        call("end", text.length());
    }
}
