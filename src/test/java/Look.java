import java.util.ArrayList;
import java.util.IdentityHashMap;
import java.util.List;
import java.util.Map;
import java.util.NoSuchElementException;
import java.util.function.Consumer;
import java.util.function.Function;
import java.util.function.Supplier;

/**
 * All that can be asked of a harbour, now and later. It is asked of objects that are made anew for every part of it, since
 * nothing is promised of an object behind its 512th call.
 */
final class Look {
    private static final int ASKED_OF_ONE = 150;
    private static final Consumer<SiltHarbour> NOTHING = x -> { };
    private static final Map<Supplier<SiltHarbour>, List<String>> SEEN = new IdentityHashMap<>();

    private record Question(String name, Function<SiltHarbour, Object> ask) {
    }

    private final Supplier<SiltHarbour> made;
    private final Consumer<SiltHarbour> deed;
    private final boolean withFault;
    private final List<String> answers = new ArrayList<>();

    private Look(Supplier<SiltHarbour> made, Consumer<SiltHarbour> deed, boolean withFault) {
        this.made = made;
        this.deed = deed;
        this.withFault = withFault;
    }

    /** What is answered behind a deed: one row for each question. */
    static List<String> of(Supplier<SiltHarbour> made, Consumer<SiltHarbour> deed) {
        return new Look(made, deed, true).all();
    }

    static List<String> of(Supplier<SiltHarbour> made) {
        return SEEN.computeIfAbsent(made, m -> of(m, NOTHING));
    }

    /** A call that is refused: it answers or throws what is due, and all is as if it had not been made. */
    static void refused(String call, Object want, Supplier<SiltHarbour> made, Function<SiltHarbour, Object> deed) {
        Due.same(call, answer(deed, made.get()), want);
        same(call + " leaves all as it was", of(made, x -> answer(deed, x)), of(made));
    }

    /** Likewise of a call that throws, without an answer. */
    static void refusedDeed(String call, Object want, Supplier<SiltHarbour> made, Consumer<SiltHarbour> deed) {
        refused(call, want, made, x -> {
            deed.accept(x);
            return "nothing";
        });
    }

    /** Likewise of one that uses the TAPE up: that is all that it may change, but for fault(), which is told. */
    static void refusedText(String call, Object want, int fault, Supplier<SiltHarbour> made, Function<SiltHarbour, Object> deed) {
        SiltHarbour x = made.get();
        Due.same(call, answer(deed, x), want);
        Due.due(call + ", then fault()", x.fault(), fault);
        Due.due(call + ", then the TAPE is empty", x.feed(0, 0, 0, 0, 0), 20);
        List<String> without = new Look(made, y -> y.end(0), false).all();
        same(call + " leaves all but the TAPE as it was", new Look(made, y -> answer(deed, y), false).all(), without);
    }

    static void same(String what, List<String> got, List<String> want) {
        Due.due(what + ": as many answers", got.size(), want.size());
        for (int i = 0; i < got.size() && i < want.size(); i++) {
            if (!got.get(i).equals(want.get(i))) {
                Due.same(what, got.get(i), want.get(i));
                return;
            }
        }
        Due.due(what, true, true);
    }

    private static final List<Class<?>> OF_THE_DOCUMENT = List.of(IndexOutOfBoundsException.class, IllegalArgumentException.class,
        IllegalStateException.class, UnsupportedOperationException.class, NoSuchElementException.class);

    /** The answer, or the class that was thrown, which must be one of the document's, not one of the machine's. */
    static Object answer(Function<SiltHarbour, Object> ask, SiltHarbour x) {
        try {
            return ask.apply(x);
        } catch (RuntimeException e) {
            if (!OF_THE_DOCUMENT.contains(e.getClass())) {
                Due.same("a call", e, "nothing that the machine throws");
            }
            return e.getClass();
        }
    }

    private List<String> all() {
        List<Question> state = stateQuestions();
        ask("now", NOTHING, state);
        ask("an hour later", x -> x.hours(1), state);
        ask("a day later", x -> x.hours(24), state);
        ask("5 days later", x -> x.hours(120), state);
        ask("a year later", x -> Due.pass(x, 2400), state);
        ask("gone back", x -> x.again(), state);
        ask("told more", NOTHING, tellings());
        ask("voted", NOTHING, votes());
        ask("the tape", NOTHING, tape());
        ask("another act", NOTHING, others());
        ask("another act, a year later", x -> Due.pass(x, 2400), others());
        return answers;
    }

    private void ask(String when, Consumer<SiltHarbour> then, List<Question> questions) {
        for (int from = 0; from < questions.size(); from += ASKED_OF_ONE) {
            SiltHarbour x = made.get();
            deed.accept(x);
            then.accept(x);
            for (Question q : questions.subList(from, Math.min(questions.size(), from + ASKED_OF_ONE))) {
                answers.add(when + ": " + q.name + " = " + answer(q.ask, x));
            }
        }
    }

    private static void add(List<Question> to, String name, Function<SiltHarbour, Object> ask) {
        to.add(new Question(name, ask));
    }

    private List<Question> stateQuestions() {
        List<Question> all = new ArrayList<>();
        for (int what = 0; what < 24; what++) {
            int w = what;
            add(all, "count(" + w + ")", x -> x.count(w));
        }
        if (withFault) {
            add(all, "fault()", x -> x.fault());
        }
        cellQuestions(all);
        SiltHarbour probe = made.get();
        int ships = probe.count(4);
        int berths = probe.count(3);
        // of ships and payers by the dozen all alike a few tell as much
        for (int s = 0; s < ships; s += ships > 20 ? 13 : 1) {
            shipQuestions(all, s, Math.min(berths, 3));
        }
        for (int b = 0; b < berths; b++) {
            rows(all, "quay", b, 6, SiltHarbour::quay);
        }
        int payers = payersOf(probe);
        for (int p = 0; p <= payers; p += payers > 10 ? 7 : 1) {
            rows(all, "pays", p, 5, SiltHarbour::pays);
        }
        for (int b = 0; b < probe.count(20); b++) {
            rows(all, "owes", b, 4, SiltHarbour::owes);
        }
        planQuestions(all);
        return all;
    }

    static int payersOf(SiltHarbour x) {
        int n = 0;
        while (n < 30 && hasPayer(x, n)) {
            n++;
        }
        return n;
    }

    private static boolean hasPayer(SiltHarbour x, int payer) {
        return answer(y -> y.pays(payer, 0), x) instanceof Integer;
    }

    private interface Row {
        int of(SiltHarbour x, int number, int what);
    }

    private static void rows(List<Question> all, String name, int number, int whats, Row row) {
        for (int what = 0; what < whats; what++) {
            int w = what;
            add(all, name + "(" + number + ", " + w + ")", x -> row.of(x, number, w));
        }
    }

    private static void cellQuestions(List<Question> all) {
        for (int cell = 0; cell < 24; cell++) {
            int c = cell;
            rows(all, "cell", c, 4, SiltHarbour::cell);
            add(all, "known(" + c + ", 10)", x -> x.known(c, 10));
        }
    }

    private static void shipQuestions(List<Question> all, int ship, int berths) {
        rows(all, "led", ship, 10, SiltHarbour::led);
        rows(all, "judge", ship, 4, SiltHarbour::judge);
        for (int berth = 0; berth < berths; berth++) {
            int b = berth;
            add(all, "window(" + ship + ", " + b + ", false)", x -> x.window(ship, b, false));
            add(all, "window(" + ship + ", " + b + ", true)", x -> x.window(ship, b, true));
        }
    }

    private static void planQuestions(List<Question> all) {
        add(all, "bring()", x -> x.bring());
        add(all, "best(1000)", x -> x.best(1000));
        for (int work = 0; work < 6; work++) {
            int set = 1 << work;
            add(all, "worth(1000, " + set + ")", x -> x.worth(1000, set));
        }
    }

    /** What comes next gets the next number; these change what they ask. */
    private static List<Question> tellings() {
        List<Question> all = new ArrayList<>();
        for (int dredger = 0; dredger < 7; dredger++) {
            int d = dredger;
            add(all, "station(" + d + ", NONE, NONE)", x -> x.station(d, -1, -1));
        }
        add(all, "run(1250, 5)", x -> x.run(1250, 5));
        add(all, "dredger(5)", x -> x.dredger(5));
        add(all, "sound(0, 0, 9)", x -> x.sound(0, 0, 9));
        add(all, "berth(0, 1, 1, 1)", x -> x.berth(0, 1, 1, 1));
        add(all, "payer()", x -> x.payer());
        add(all, "ship(0, ..)", x -> x.ship(0, 0, 1, 1, 1, 1, false, 0));
        add(all, "bond(1, 0, 0, 1)", x -> x.bond(1, 0, 0, 1));
        add(all, "work(0, 0, 0, 0)", x -> x.work(0, 0, 0, 0));
        for (int ship = 0; ship < 9; ship++) {
            int s = ship;
            add(all, "back(" + s + ")", x -> x.back(s));
        }
        return all;
    }

    private static List<Question> votes() {
        List<Question> all = new ArrayList<>();
        for (int payer = 0; payer < 4; payer++) {
            int p = payer;
            add(all, "vote(" + p + ", true)", x -> x.vote(p, true));
        }
        add(all, "close()", x -> x.close());
        add(all, "count(18)", x -> x.count(18));
        add(all, "hours(24)", x -> x.hours(24));
        add(all, "count(19)", x -> x.count(19));
        return all;
    }

    /** What other acts would have brought, of which some ships bear more than others. */
    private static List<Question> others() {
        List<Question> all = new ArrayList<>();
        String[] texts = {"ton 1", "ship 60", "ship 170", "ship 9 if foreign;ship 20 if long>55", "ship 7 if grain or timber;ton 1 if stay>9"};
        for (String text : texts) {
            for (int year = 0; year < 2; year++) {
                for (boolean elsewhere : new boolean[] {false, true}) {
                    int y = year;
                    add(all, "another(" + y + ", " + elsewhere + ") of " + text, x -> {
                        x.end(0);
                        Due.text(x, text);
                        return x.another(y, elsewhere);
                    });
                }
            }
        }
        return all;
    }

    private static List<Question> tape() {
        List<Question> all = new ArrayList<>();
        add(all, "feed(blanks)", x -> x.feed(0x20202020, 0x20202020, 0x20202020, 0x20202020, 0x20202020));
        add(all, "another(0, false)", x -> x.another(0, false));
        add(all, "fault()", x -> x.fault());
        return all;
    }
}
