import java.io.ByteArrayInputStream;
import java.io.ByteArrayOutputStream;
import java.io.IOException;
import java.io.ObjectInputStream;
import java.io.ObjectOutputStream;
import java.io.Serializable;
import java.util.ArrayList;
import java.util.Comparator;
import java.util.List;
import java.util.NoSuchElementException;
import java.util.stream.Collectors;
import java.util.stream.IntStream;

/**
 * The document once more, in another way: no row is kept that could be found by looking through what was told, texts are
 * read anew each time they are asked, plans are found by trying all. Slow, and only for comparing.
 */
public final class Oracle {
    static final class Boat implements Serializable {
        private static final long serialVersionUID = 1;
        int payer, good, tons, length, in, out, most, state, berth = -1, left, came, there = -1, gone = -1, due, back, touched;
        boolean foreign, had;
        String law;
    }

    static final class Quay implements Serializable {
        private static final long serialVersionUID = 1;
        int cell, length, crane, limit, load, over, landed, ship = -1;
    }

    static final class Loan implements Serializable {
        private static final long serialVersionUID = 1;
        int face, rate, rank, sold, term, owes, paid;
    }

    static final class State implements Serializable {
        private static final long serialVersionUID = 1;
        int hour, pilots = 2, wagons = 1, carted, cash, dues, backs, touches, ran, sea, away;
        int[] bed = new int[24], natural = new int[24], heap = new int[24], tide = new int[25];
        List<int[]> runs = new ArrayList<>(), dredgers = new ArrayList<>(), sounds = new ArrayList<>(), works = new ArrayList<>();
        List<int[]> payers = new ArrayList<>();
        /** The last hour in which each pilot that was ever taken is busy. */
        List<Integer> busyTo = new ArrayList<>();
        List<Quay> quays = new ArrayList<>();
        List<Boat> boats = new ArrayList<>();
        List<Loan> loans = new ArrayList<>();
        List<String> acts = new ArrayList<>();
        List<Integer> actDays = new ArrayList<>();
        String vote;
        int voteDay;
        List<Integer> said = new ArrayList<>();
        long yes, all;
    }

    private final ByteArrayOutputStream tape = new ByteArrayOutputStream();
    private int fault = -1;
    private State st = new State();
    private byte[] image;

    public Oracle() {
        java.util.Arrays.fill(st.bed, 20);
        java.util.Arrays.fill(st.natural, 20);
    }

    // ---- the tape

    public int feed(int a, int b, int c, int d, int e) {
        if (tape.size() > 380) {
            return -1;
        }
        for (int n : new int[] {a, b, c, d, e}) {
            tape.write(n >>> 24);
            tape.write(n >>> 16);
            tape.write(n >>> 8);
            tape.write(n);
        }
        return tape.size();
    }

    public boolean end(int n) {
        if (n < 0 || tape.size() < n) {
            return false;
        }
        byte[] kept = tape.toByteArray();
        tape.reset();
        tape.write(kept, 0, n);
        return true;
    }

    private String useUp() {
        StringBuilder s = new StringBuilder();
        for (byte b : tape.toByteArray()) {
            s.append((char) (b & 255));
        }
        tape.reset();
        return s.toString();
    }

    // ---- texts

    private static final class Wrong extends RuntimeException {
        private static final long serialVersionUID = 1;
        final int at;

        Wrong(int at) {
            this.at = at;
        }
    }

    interface Facts {
        long of(String name);
    }

    record Line(String kind, int number, boolean holds, String key, boolean down) {
    }

    /** Reads a text from left to right and answers its conditions as it goes. */
    private static final class Text {
        final String s;
        final Facts facts;
        int p;

        Text(String s, Facts facts) {
            this.s = s;
            this.facts = facts;
        }

        void blanks() {
            while (p < s.length() && s.charAt(p) == ' ') {
                p++;
            }
        }

        /** The next thing, without going on; "" at the end. */
        String peek() {
            blanks();
            if (p == s.length()) {
                return "";
            }
            int q = p + 1;
            String run = Character.toString(s.charAt(p));
            for (String kind : new String[] {"abcdefghijklmnopqrstuvwxyz", "0123456789"}) {
                if (kind.contains(run)) {
                    while (q < s.length() && kind.indexOf(s.charAt(q)) >= 0) {
                        q++;
                    }
                }
            }
            return s.substring(p, q);
        }

        String take() {
            String t = peek();
            p += t.length();
            return t;
        }

        boolean maybe(String t) {
            if (peek().equals(t)) {
                take();
                return true;
            }
            return false;
        }

        Wrong wrong() {
            blanks();
            return new Wrong(p);
        }

        int number(int most) {
            if (!peek().matches("[0-9]{1,6}") || Integer.parseInt(peek()) > most) {
                throw wrong();
            }
            return Integer.parseInt(take());
        }

        List<Line> lines() {
            List<Line> all = new ArrayList<>();
            if (peek().isEmpty()) {
                return all;
            }
            all.add(line());
            while (maybe(";")) {
                if (all.size() == 20) {
                    throw wrong();
                }
                all.add(line());
            }
            if (!peek().isEmpty()) {
                throw wrong();
            }
            return all;
        }

        Line line() {
            String kind = peek();
            if (!kind.matches("ton|ship|back|vote|turn|clear|pass|borrow")) {
                throw wrong();
            }
            take();
            if (kind.equals("turn")) {
                if (!peek().matches("come|tons|long|good")) {
                    throw wrong();
                }
                String key = take();
                return new Line(kind, 0, true, key, maybe("down"));
            }
            int n = number(kind.matches("back|pass") ? 100 : kind.equals("clear") ? 50 : 999999);
            boolean holds = true;
            if (kind.matches("ton|ship|back|vote") && maybe("if")) {
                holds = condition(0);
            }
            return new Line(kind, n, holds, "", false);
        }

        boolean condition(int deep) {
            boolean any = all(deep);
            while (maybe("or")) {
                any |= all(deep);
            }
            return any;
        }

        boolean all(int deep) {
            boolean all = atom(deep);
            while (maybe("and")) {
                all &= atom(deep);
            }
            return all;
        }

        boolean atom(int deep) {
            String t = peek();
            if (t.equals("not") || t.equals("(")) {
                if (deep == 6) {
                    throw wrong();
                }
                take();
                if (t.equals("not")) {
                    return !atom(deep + 1);
                }
                boolean c = condition(deep + 1);
                if (!maybe(")")) {
                    throw wrong();
                }
                return c;
            }
            if (t.matches("coal|grain|timber|cotton|ore|mail|foreign")) {
                return facts.of(take()) == 1;
            }
            if (!t.matches("tons|long|stay|paid|last")) {
                throw wrong();
            }
            long value = facts.of(take());
            if (maybe("<")) {
                return value < number(999999);
            }
            if (maybe(">")) {
                return value > number(999999);
            }
            throw wrong();
        }
    }

    private static List<Line> ask(String text, Facts facts) {
        return new Text(text, facts).lines();
    }

    private final java.util.Map<String, List<Line>> read = new java.util.HashMap<>();

    /** The lines but for what holds, which is asked so often that it is kept. */
    private List<Line> lines(String text) {
        if (!read.containsKey(text)) {
            read.put(text, ask(text, name -> 0));
        }
        return read.get(text);
    }

    private int read(String text) {
        try {
            int n = lines(text).size();
            fault = -1;
            return n;
        } catch (Wrong w) {
            fault = w.at;
            throw new IllegalArgumentException();
        }
    }

    private Facts of(Boat b, int stay) {
        String[] goods = {"coal", "grain", "timber", "cotton", "ore", "mail"};
        return name -> {
            switch (name) {
                case "foreign":
                    return b.foreign ? 1 : 0;
                case "tons":
                    return b.tons;
                case "long":
                    return b.length;
                case "stay":
                    return stay;
                case "paid":
                case "last":
                    return 0;
                default:
                    return goods[b.good].equals(name) ? 1 : 0;
            }
        };
    }

    private static long sum(List<Line> lines, String kind) {
        return lines.stream().filter(l -> l.kind.equals(kind) && l.holds).mapToLong(Line::number).sum();
    }

    private static int most(List<Line> lines, String kind) {
        return lines.stream().filter(l -> l.kind.equals(kind) && l.holds).mapToInt(Line::number).max().orElse(0);
    }

    private static int last(List<Line> lines, String kind, int without) {
        List<Line> such = lines.stream().filter(l -> l.kind.equals(kind)).collect(Collectors.toList());
        return such.isEmpty() ? without : such.get(such.size() - 1).number;
    }

    private static int first(List<Line> lines, String kind) {
        return IntStream.range(0, lines.size()).filter(i -> lines.get(i).kind.equals(kind) && lines.get(i).holds)
            .findFirst().orElse(-1);
    }

    private static int cap(long n) {
        return n > 2000000000L ? 2000000000 : (int) n;
    }

    private int due(String law, Boat b, int stay) {
        List<Line> l = ask(law, of(b, stay));
        return cap(sum(l, "ton") * b.tons + sum(l, "ship"));
    }

    private String actOf(int day) {
        String found = "";
        int best = -1;
        for (int i = 0; i < st.acts.size(); i++) {
            if (st.actDays.get(i) <= day && st.actDays.get(i) >= best) {
                best = st.actDays.get(i);
                found = st.acts.get(i);
            }
        }
        return found;
    }

    private String todays() {
        return actOf(day());
    }

    private int votes(int p) {
        int[] payer = st.payers.get(p);
        return (int) sum(ask(todays(), name -> name.equals("paid") ? payer[0] : name.equals("last") ? payer[1] : 0), "vote");
    }

    // ---- looking after arguments

    private static void index(int i, int size) {
        if (i < 0 || i >= size) {
            throw new IndexOutOfBoundsException();
        }
    }

    private static void from(int least, int n, int most) {
        if (n < least || n > most) {
            throw new IllegalArgumentException();
        }
    }

    private static void state(boolean good) {
        if (!good) {
            throw new IllegalStateException();
        }
    }

    private static void room(int size, int most) {
        if (size == most) {
            throw new UnsupportedOperationException();
        }
    }

    private int day() {
        return st.hour / 24;
    }

    private int year() {
        return day() / 100;
    }

    // ---- the river

    public void river(int from, int to, int bed, int natural) {
        index(from, 24);
        index(to, 24);
        if (from > to) {
            throw new IllegalArgumentException();
        }
        from(0, bed, 200);
        from(0, natural, 200);
        state(st.hour == 0);
        for (int c = from; c <= to; c++) {
            st.bed[c] = bed;
            st.natural[c] = natural;
        }
    }

    public void tide(int at, int level) {
        from(0, at, 24);
        from(-20, level, 60);
        st.tide[at] = level;
    }

    public int run(int day, int n) {
        from(day(), day, 1250);
        from(0, n, 2000);
        if (st.runs.size() == 40) {
            return -1;
        }
        st.runs.add(new int[] {day, n});
        return st.runs.size();
    }

    public int dredger(int digs) {
        from(1, digs, 500);
        room(st.dredgers.size(), 6);
        st.dredgers.add(new int[] {digs, -1, -1});
        return st.dredgers.size() - 1;
    }

    public boolean station(int dredger, int cell, int lays) {
        index(dredger, st.dredgers.size());
        index(cell + 1, 25);
        index(lays + 1, 25);
        int[] d = st.dredgers.get(dredger);
        boolean other = d[1] != cell || d[2] != lays;
        d[1] = cell;
        d[2] = lays;
        return other;
    }

    public int cell(int cell, int what) {
        index(cell, 24);
        if (what < 0 || what > 3) {
            throw new NoSuchElementException();
        }
        return new int[] {st.bed[cell], st.natural[cell], st.heap[cell], knownAs(cell, st.hour)}[what];
    }

    private int knownAs(int cell, int hour) {
        return st.sounds.stream().filter(s -> s[0] == cell && s[3] <= hour)
            .reduce((a, b) -> b[1] >= a[1] ? b : a).map(s -> s[2]).orElse(st.natural[cell]);
    }

    public int sound(int cell, int day, int depth) {
        index(cell, 24);
        from(0, day, day());
        from(0, depth, 250);
        if (st.sounds.size() == 200) {
            return -1;
        }
        st.sounds.add(new int[] {cell, day, depth, st.hour});
        return st.sounds.size() - 1;
    }

    public int known(int cell, int hour) {
        index(cell, 24);
        return knownAs(cell, hour);
    }

    private void endOfDay() {
        int ended = st.hour / 24 - 1;
        int carried = 0;
        int best = -1;
        for (int[] r : st.runs) {
            if (r[0] <= ended && r[0] >= best) {
                best = r[0];
                carried = r[1];
            }
        }
        st.ran += carried;
        for (int c = 23; c >= 0; c--) {
            int above = st.bed[c] > st.natural[c] ? st.bed[c] - st.natural[c] : 0;
            int hundredths = 5 + above > 60 ? 60 : 5 + above;
            int settles = carried * hundredths / 100;
            st.heap[c] += settles;
            carried -= settles;
        }
        st.sea += carried;
        for (int[] d : st.dredgers) {
            if (d[1] == -1) {
                continue;
            }
            // a foot at a time, a ton at a time
            int took = 0;
            while (took < d[0]) {
                if (st.heap[d[1]] == 0) {
                    if (st.bed[d[1]] == 200) {
                        break;
                    }
                    st.bed[d[1]]++;
                    st.heap[d[1]] = 50;
                }
                st.heap[d[1]]--;
                took++;
            }
            if (d[2] == -1) {
                st.away += took;
            } else {
                st.heap[d[2]] += took;
            }
        }
        for (int c = 0; c < 24; c++) {
            int feet = Math.min(st.heap[c] / 50, st.bed[c]);
            st.heap[c] -= 50 * feet;
            st.bed[c] -= feet;
        }
    }

    // ---- the port

    public int berth(int cell, int length, int crane, int limit) {
        index(cell, 24);
        from(1, length, 900);
        from(1, crane, 500);
        from(1, limit, 50000);
        room(st.quays.size(), 10);
        Quay q = new Quay();
        q.cell = cell;
        q.length = length;
        q.crane = crane;
        q.limit = limit;
        st.quays.add(q);
        return st.quays.size() - 1;
    }

    public void hands(int pilots, int wagons) {
        from(0, pilots, 20);
        from(0, wagons, 100);
        st.pilots = pilots;
        st.wagons = wagons;
    }

    public int payer() {
        room(st.payers.size(), 30);
        st.payers.add(new int[3]);
        return st.payers.size() - 1;
    }

    public int ship(int payer, int good, int tons, int length, int in, int out, boolean foreign, int most) {
        index(payer, st.payers.size());
        from(0, good, 5);
        from(1, tons, 20000);
        from(1, length, 900);
        from(1, in, 80);
        from(1, out, 80);
        from(0, most, 1000000);
        room(st.boats.size(), 80);
        Boat b = new Boat();
        b.payer = payer;
        b.good = good;
        b.tons = tons;
        b.left = tons;
        b.length = length;
        b.in = in;
        b.out = out;
        b.foreign = foreign;
        b.most = most;
        b.came = st.hour;
        b.law = todays();
        st.boats.add(b);
        return st.boats.size() - 1;
    }

    private int tideAt(int hour) {
        return st.tide[hour % 25];
    }

    private boolean safe(Boat b, int q, int h, boolean out) {
        int clear = last(lines(todays()), "clear", 5);
        for (int c = 0; c <= q; c++) {
            int at = out ? h + (q - c) / 6 : h + c / 6;
            if (knownAs(c, st.hour) + tideAt(at) < (out ? b.out : b.in) + clear) {
                return false;
            }
        }
        return true;
    }

    private void begin(Boat b, int q, boolean out) {
        boolean touch = false;
        for (int c = 0; c <= q; c++) {
            int at = out ? st.hour + (q - c) / 6 : st.hour + c / 6;
            touch |= st.bed[c] + tideAt(at) < (out ? b.out : b.in);
        }
        if (touch) {
            b.touched++;
            st.touches++;
        }
        st.busyTo.add(st.hour + q / 6);
    }

    private int free() {
        int busy = (int) st.busyTo.stream().filter(to -> to >= st.hour).count();
        return Math.max(0, st.pilots - busy);
    }

    /** The waiting ones in their turn. */
    private List<Boat> line() {
        List<Line> turns = lines(todays()).stream().filter(l -> l.kind.equals("turn")).collect(Collectors.toList());
        Line turn = turns.isEmpty() ? new Line("turn", 0, true, "come", false) : turns.get(turns.size() - 1);
        Comparator<Boat> by = Comparator.comparingInt(b -> turn.key.equals("come") ? b.came : turn.key.equals("tons") ? b.tons
            : turn.key.equals("long") ? b.length : b.good);
        // a list is sorted so that alike ones stay as they are
        return st.boats.stream().filter(b -> b.state == 0).sorted(turn.down ? by.reversed() : by).collect(Collectors.toList());
    }

    private void hour() {
        st.hour++;
        for (Boat b : st.boats) {
            if (b.state == 1 && b.there == st.hour) {
                b.state = 2;
            }
        }
        for (Boat b : st.boats) {
            if (b.state == 3 && safe(b, st.quays.get(b.berth).cell, st.hour, true) && free() > 0) {
                begin(b, st.quays.get(b.berth).cell, true);
                b.state = 4;
                b.gone = st.hour;
                st.quays.get(b.berth).ship = -1;
                b.due = due(b.law, b, st.hour - b.came);
                int[] p = st.payers.get(b.payer);
                p[0] = cap((long) p[0] + b.due);
                p[2] = cap((long) p[2] + b.due);
                st.dues = cap((long) st.dues + b.due);
                st.cash = cap((long) st.cash + b.due);
            }
        }
        for (Boat b : line()) {
            for (Quay q : st.quays) {
                if (q.ship == -1 && q.over / 24 < 10 && q.length >= b.length && free() > 0 && safe(b, q.cell, st.hour, false)) {
                    begin(b, q.cell, false);
                    b.berth = st.quays.indexOf(q);
                    b.there = st.hour + q.cell / 6;
                    b.state = b.there == st.hour ? 2 : 1;
                    q.ship = st.boats.indexOf(b);
                    break;
                }
            }
        }
        for (Boat b : st.boats) {
            if (b.state == 2) {
                Quay q = st.quays.get(b.berth);
                int n = Math.min(q.crane, b.left);
                b.left -= n;
                q.load += n;
                q.landed += n;
                b.state = b.left == 0 ? 3 : 2;
            }
        }
        for (int w = 0; w < st.wagons; w++) {
            Quay most = st.quays.stream().max(Comparator.<Quay>comparingInt(q -> q.load)
                .thenComparingInt(q -> -st.quays.indexOf(q))).orElse(new Quay());
            int n = Math.min(10, most.load);
            most.load -= n;
            st.carted += n;
        }
        for (Quay q : st.quays) {
            q.over += q.load > q.limit ? 1 : 0;
        }
        if (st.hour % 24 == 0) {
            endOfDay();
        }
        if (st.hour % 2400 == 0) {
            endOfYear();
        }
    }

    private void endOfYear() {
        int ended = st.hour / 2400 - 1;
        List<Loan> order = new ArrayList<>(st.loans);
        order.sort(Comparator.comparingInt(l -> l.rank));
        for (Loan l : order) {
            int lastYear = l.sold + l.term - 1;
            if (ended <= lastYear) {
                l.owes += (int) ((long) l.face * l.rate / 10000);
            }
            if (ended == lastYear) {
                l.owes += l.face;
            }
        }
        for (Loan l : order) {
            int pay = Math.min(l.owes, st.cash);
            l.owes -= pay;
            l.paid += pay;
            st.cash -= pay;
        }
        for (int[] p : st.payers) {
            p[1] = p[0];
            p[0] = 0;
        }
    }

    public int hours(int n) {
        from(0, n, 120);
        for (int i = 0; i < n; i++) {
            if (st.hour < 30000) {
                hour();
            }
        }
        return st.hour;
    }

    public int led(int ship, int what) {
        index(ship, st.boats.size());
        Boat b = st.boats.get(ship);
        if (what < 0 || what > 9) {
            throw new NoSuchElementException();
        }
        return new int[] {b.state, b.berth, b.left, b.came, b.there, b.gone,
            b.state == 4 ? b.due : due(b.law, b, st.hour - b.came), b.back, b.touched, line().indexOf(b)}[what];
    }

    public int quay(int berth, int what) {
        index(berth, st.quays.size());
        Quay q = st.quays.get(berth);
        if (what < 0 || what > 5) {
            throw new NoSuchElementException();
        }
        return new int[] {q.cell, q.load, q.over / 24, q.ship, q.over, q.landed}[what];
    }

    public int window(int ship, int berth, boolean out) {
        index(ship, st.boats.size());
        index(berth, st.quays.size());
        return IntStream.rangeClosed(st.hour + 1, st.hour + 50)
            .filter(h -> safe(st.boats.get(ship), st.quays.get(berth).cell, h, out)).findFirst().orElse(-1);
    }

    // ---- acts

    public int act(int day) {
        String text = useUp();
        from(day(), day, 1250);
        int n = read(text);
        state(st.payers.stream().allMatch(p -> p[2] == 0));
        room(st.acts.size(), 20);
        st.acts.add(text);
        st.actDays.add(day);
        return n;
    }

    public int propose(int day) {
        String text = useUp();
        from(day(), day, 1250);
        int n = read(text);
        state(st.vote == null);
        room(st.acts.size(), 20);
        st.vote = text;
        st.voteDay = day;
        st.said.clear();
        st.yes = 0;
        st.all = 0;
        return n;
    }

    public int fault() {
        return fault;
    }

    public int vote(int payer, boolean yes) {
        index(payer, st.payers.size());
        state(st.vote != null);
        if (st.said.contains(payer)) {
            return -1;
        }
        st.said.add(payer);
        int n = votes(payer);
        st.all += n;
        st.yes += yes ? n : 0;
        return n;
    }

    public boolean close() {
        state(st.vote != null);
        boolean passes = st.yes * 100 > last(lines(todays()), "pass", 50) * st.all && st.acts.size() < 20;
        if (passes) {
            st.acts.add(st.vote);
            st.actDays.add(Math.max(day(), st.voteDay));
        }
        st.vote = null;
        return passes;
    }

    public int judge(int ship, int what) {
        index(ship, st.boats.size());
        if (what < 0 || what > 3) {
            throw new NoSuchElementException();
        }
        Boat b = st.boats.get(ship);
        List<Line> l = ask(todays(), of(b, 0));
        return new int[] {due(todays(), b, 0), first(l, "ton"), first(l, "ship"), most(l, "back")}[what];
    }

    public int back(int ship) {
        index(ship, st.boats.size());
        Boat b = st.boats.get(ship);
        if (b.state != 4 || b.had) {
            return -1;
        }
        b.had = true;
        long asked = (long) b.due * most(ask(b.law, of(b, b.gone - b.came)), "back") / 100;
        b.back = (int) Math.min(asked, st.cash);
        st.cash -= b.back;
        st.backs = cap((long) st.backs + b.back);
        return b.back;
    }

    public int pays(int payer, int what) {
        index(payer, st.payers.size());
        if (what < 0 || what > 4) {
            throw new NoSuchElementException();
        }
        int[] p = st.payers.get(payer);
        int ships = (int) st.boats.stream().filter(b -> b.payer == payer).count();
        return new int[] {p[0], p[1], votes(payer), ships, p[2]}[what];
    }

    public int cash(int n) {
        from(0, n, 1000000);
        st.cash = cap((long) st.cash + n);
        return st.cash;
    }

    public int bond(int face, int rate, int rank, int term) {
        from(1, face, 1000000);
        from(0, rate, 2000);
        from(0, rank, 9);
        from(1, term, 30);
        room(st.loans.size(), 20);
        long all = face;
        for (Loan l : st.loans) {
            all += l.sold + l.term - 1 >= year() || l.owes > 0 ? l.face : 0;
        }
        if (all > last(lines(todays()), "borrow", -1)) {
            return -1;
        }
        Loan l = new Loan();
        l.face = face;
        l.rate = rate;
        l.rank = rank;
        l.term = term;
        l.sold = year();
        st.loans.add(l);
        st.cash = cap((long) st.cash + face);
        return st.loans.size() - 1;
    }

    public int owes(int bond, int what) {
        index(bond, st.loans.size());
        if (what < 0 || what > 3) {
            throw new NoSuchElementException();
        }
        Loan l = st.loans.get(bond);
        int end = l.sold + l.term - 1;
        return new int[] {l.owes, end < year() ? 0 : l.face, l.paid, end}[what];
    }

    // ---- plans

    private int least;

    public int bring() {
        List<Boat> four = line().stream().limit(4).collect(Collectors.toList());
        least = Integer.MAX_VALUE;
        boolean[][][] ok = new boolean[four.size()][st.quays.size()][73];
        int[] earliest = new int[four.size()];
        for (int i = 0; i < four.size(); i++) {
            earliest[i] = 1000;
            for (int b = 0; b < st.quays.size(); b++) {
                Quay q = st.quays.get(b);
                for (int h = 1; h <= 72; h++) {
                    ok[i][b][h] = q.over / 24 < 10 && q.length >= four.get(i).length && (q.ship == -1 || h >= 24)
                        && safe(four.get(i), q.cell, st.hour + h, false);
                    if (ok[i][b][h]) {
                        earliest[i] = Math.min(earliest[i], h);
                    }
                }
            }
        }
        for (int e : earliest) {
            if (e == 1000) {
                return -1;
            }
        }
        place(four, ok, earliest, new int[four.size()], new int[four.size()], 0, 0);
        return least == Integer.MAX_VALUE ? -1 : least;
    }

    private void place(List<Boat> four, boolean[][][] ok, int[] earliest, int[] at, int[] begin, int i, int sum) {
        if (i == four.size()) {
            least = Math.min(least, sum);
            return;
        }
        int rest = 0;
        for (int j = i + 1; j < four.size(); j++) {
            rest += earliest[j];
        }
        for (int h = 1; h <= 72 && sum + h + rest < least; h++) {
            for (int b = 0; b < st.quays.size(); b++) {
                boolean room = ok[i][b][h];
                for (int j = 0; j < i && room; j++) {
                    room = at[j] != b || h >= begin[j] + hold(four.get(j), b) || h + hold(four.get(i), b) <= begin[j];
                }
                if (room) {
                    at[i] = b;
                    begin[i] = h;
                    place(four, ok, earliest, at, begin, i + 1, sum + h);
                }
            }
        }
    }

    private int hold(Boat b, int berth) {
        Quay q = st.quays.get(berth);
        return b.tons / q.crane + (b.tons % q.crane > 0 ? 1 : 0) + q.cell / 6 + 6;
    }

    public int work(int cost, int brings, int year, int less) {
        from(0, cost, 1000000);
        from(0, brings, 100000);
        from(0, year, 29);
        from(0, less, 100);
        if (st.works.size() == 6) {
            return -1;
        }
        st.works.add(new int[] {cost, brings, year, less});
        return st.works.size();
    }

    public int worth(int cash, int set) {
        from(0, cash, 1000000);
        List<int[]> made = new ArrayList<>();
        int money = cash;
        for (int y = 0; y < 30; y++) {
            for (int[] w : made) {
                money += w[1] * (100 - w[3]) / 100;
            }
            for (int i = 0; i < st.works.size(); i++) {
                int[] w = st.works.get(i);
                if ((set & 1 << i) != 0 && w[2] == y && money >= w[0]) {
                    money -= w[0];
                    made.add(w);
                }
            }
        }
        return money;
    }

    public int best(int cash) {
        from(0, cash, 1000000);
        return IntStream.range(0, 1 << st.works.size()).boxed()
            .min(Comparator.<Integer>comparingInt(s -> -worth(cash, s)).thenComparingInt(Integer::bitCount)
                .thenComparingInt(s -> s)).get();
    }

    public int another(int year, boolean elsewhere) {
        String text = useUp();
        read(text);
        long brought = 0;
        int lost = 0;
        for (Boat b : st.boats) {
            if (b.state == 4 && b.gone / 24 / 100 == year) {
                int due = due(text, b, b.gone - b.came);
                lost += due > b.most ? 1 : 0;
                brought += due > b.most ? 0 : due;
            }
        }
        return elsewhere ? lost : cap(brought);
    }

    // ---- the image

    public void keep() {
        try {
            ByteArrayOutputStream bytes = new ByteArrayOutputStream();
            try (ObjectOutputStream out = new ObjectOutputStream(bytes)) {
                out.writeObject(st);
            }
            image = bytes.toByteArray();
        } catch (IOException e) {
            throw new AssertionError(e);
        }
    }

    public boolean again() {
        if (image == null) {
            return false;
        }
        try (ObjectInputStream in = new ObjectInputStream(new ByteArrayInputStream(image))) {
            st = (State) in.readObject();
        } catch (IOException | ClassNotFoundException e) {
            throw new AssertionError(e);
        }
        return true;
    }

    public int count(int what) {
        if (what < 0 || what > 23) {
            return -1;
        }
        long[] all = {st.hour, day(), year(), st.quays.size(), st.boats.size(),
            st.boats.stream().filter(b -> b.state == 0).count(), st.boats.stream().filter(b -> b.state == 4).count(), free(),
            st.quays.stream().mapToLong(q -> q.load).sum(), st.carted, st.cash, st.dues, st.backs, st.touches, st.ran, st.sea,
            st.away, st.sounds.size(), st.acts.size(), lines(todays()).size(), st.loans.size(),
            st.loans.stream().mapToLong(l -> l.owes).sum(), IntStream.of(st.heap).sum(), IntStream.of(st.bed).sum()};
        return (int) all[what];
    }
}
