import java.util.Arrays;
import java.util.NoSuchElementException;

/** A harbour board on a silting river; the numbered promises stand in the project's document. */
public final class SiltHarbour {
    public static final int NONE = -1;

    private static final int CELLS = 24;
    private static final int CELLS_AN_HOUR = 6;
    private static final int DEEPEST = 200;
    private static final int HEAP_OF_A_FOOT = 50;
    private static final int TIDES = 25;
    private static final int DAY_HOURS = 24;
    private static final int YEAR_HOURS = 2400;
    private static final int LAST_HOUR = 30000;
    private static final int LAST_DAY = 1250;
    private static final int MOST_RUNS = 40;
    private static final int MOST_DREDGERS = 6;
    private static final int MOST_SOUNDINGS = 200;
    private static final int MOST_BERTHS = 10;
    private static final int MOST_PAYERS = 30;
    private static final int MOST_SHIPS = 80;
    private static final int MOST_ACTS = 20;
    private static final int MOST_LINES = 20;
    private static final int MOST_BONDS = 20;
    private static final int MOST_WORKS = 6;
    private static final int MOST_MONEY = 2000000000;
    private static final int MILLION = 1000000;
    private static final int TAPE_BYTES = 400;

    /** The kinds of LINE, in the order of LINE_WORDS. */
    private static final int TON = 0;
    private static final int SHIP = 1;
    private static final int BACK = 2;
    private static final int VOTE = 3;
    private static final int TURN = 4;
    private static final int CLEAR = 5;
    private static final int PASS = 6;
    private static final int BORROW = 7;

    /** What conditions ask of, in the order of FACT_WORDS; the six GOODS are 0 to 5. */
    private static final int FACTS = 12;
    private static final int FOREIGN = 6;
    private static final int TONS = 7;
    private static final int LENGTH = 8;
    private static final int STAY = 9;
    private static final int PAID = 10;
    private static final int LAST = 11;

    /** The KEYS of a turn LINE; DOWN is added to the key's number. */
    private static final int BY_TONS = 1;
    private static final int BY_LENGTH = 2;
    private static final int BY_GOOD = 3;
    private static final int DOWN = 4;

    /** The STATES of a SHIP. */
    private static final int WAITING = 0;
    private static final int COMING = 1;
    private static final int BERTHED = 2;
    private static final int READY = 3;
    private static final int GONE = 4;

    private final byte[] tape;
    private int taped;
    private final Reader reader;
    private final Board now;
    private Board image;

    public SiltHarbour() {
        tape = new byte[TAPE_BYTES];
        taped = 0;
        reader = new Reader();
        now = new Board();
        image = null;
    }

    public int feed(int a, int b, int c, int d, int e) {
        if (taped + 20 > TAPE_BYTES) {
            return NONE;
        }
        addBytes(a);
        addBytes(b);
        addBytes(c);
        addBytes(d);
        addBytes(e);
        return taped;
    }

    public boolean end(int n) {
        if (n < 0 || n > taped) {
            return false;
        }
        taped = n;
        return true;
    }

    public void river(int from, int to, int bed, int natural)
            throws IndexOutOfBoundsException, IllegalArgumentException, IllegalStateException {
        needCell(from);
        needCell(to);
        needArgument(from <= to && within(bed, 0, DEEPEST) && within(natural, 0, DEEPEST));
        needState(now.hour == 0);
        for (int c = from; c <= to; c++) {
            now.river.bed[c] = bed;
            now.river.natural[c] = natural;
        }
    }

    public void tide(int at, int level)
            throws IllegalArgumentException {
        needArgument(within(at, 0, TIDES - 1) && within(level, -20, 60));
        now.river.tides[at] = level;
    }

    public int run(int day, int n)
            throws IllegalArgumentException {
        needArgument(within(day, now.today(), LAST_DAY) && within(n, 0, 2000));
        return now.river.tellRun(day, n);
    }

    public int dredger(int digs)
            throws IllegalArgumentException, UnsupportedOperationException {
        needArgument(within(digs, 1, 500));
        needRoom(now.river.dredgers, MOST_DREDGERS);
        return now.river.addDredger(digs);
    }

    public boolean station(int dredger, int cell, int lays)
            throws IndexOutOfBoundsException {
        needIndex(dredger, now.river.dredgers);
        needCellOrNone(cell);
        needCellOrNone(lays);
        return now.river.send(dredger, cell, lays);
    }

    public int cell(int cell, int what)
            throws IndexOutOfBoundsException, NoSuchElementException {
        needCell(cell);
        switch (what) {
            case 0:
                return now.river.bed[cell];
            case 1:
                return now.river.natural[cell];
            case 2:
                return now.river.heap[cell];
            case 3:
                return now.depthAsOf(cell, now.hour);
            default:
                throw new NoSuchElementException("a cell has no such number");
        }
    }

    public int sound(int cell, int day, int depth)
            throws IndexOutOfBoundsException, IllegalArgumentException {
        needCell(cell);
        needArgument(within(day, 0, now.today()) && within(depth, 0, 250));
        return now.soundings.tell(cell, day, depth, now.hour);
    }

    public int known(int cell, int hour)
            throws IndexOutOfBoundsException {
        needCell(cell);
        return now.depthAsOf(cell, hour);
    }

    public int berth(int cell, int length, int crane, int limit)
            throws IndexOutOfBoundsException, IllegalArgumentException, UnsupportedOperationException {
        needCell(cell);
        needArgument(within(length, 1, 900) && within(crane, 1, 500) && within(limit, 1, 50000));
        needRoom(now.port.berthCount, MOST_BERTHS);
        return now.port.addBerth(cell, length, crane, limit);
    }

    public void hands(int pilots, int wagons)
            throws IllegalArgumentException {
        needArgument(within(pilots, 0, 20) && within(wagons, 0, 100));
        now.port.pilots = pilots;
        now.port.wagons = wagons;
    }

    public int payer()
            throws UnsupportedOperationException {
        needRoom(now.purse.payers, MOST_PAYERS);
        return now.purse.addPayer();
    }

    public int ship(int payer, int good, int tons, int length, int in, int out, boolean foreign, int most)
            throws IndexOutOfBoundsException, IllegalArgumentException, UnsupportedOperationException {
        needIndex(payer, now.purse.payers);
        needArgument(within(good, 0, 5) && within(tons, 1, 20000) && within(length, 1, 900));
        needArgument(within(in, 1, 80) && within(out, 1, 80) && within(most, 0, MILLION));
        needRoom(now.port.shipCount, MOST_SHIPS);
        Ship s = now.port.ships[now.port.shipCount];
        s.build(good, tons, length, foreign);
        s.draughtIn = in;
        s.draughtOut = out;
        s.payer = payer;
        s.most = most;
        s.come(now.hour, now.actOfToday());
        now.port.shipCount++;
        return now.port.shipCount - 1;
    }

    public int hours(int n)
            throws IllegalArgumentException {
        needArgument(within(n, 0, 120));
        for (int i = 0; i < n && now.hour < LAST_HOUR; i++) {
            now.passHour();
        }
        return now.hour;
    }

    public int led(int ship, int what)
            throws IndexOutOfBoundsException, NoSuchElementException {
        needIndex(ship, now.port.shipCount);
        Ship s = now.port.ships[ship];
        switch (what) {
            case 0:
                return s.state;
            case 1:
                return s.berth;
            case 2:
                return s.left;
            case 3:
                return s.came;
            case 4:
                return s.there;
            case 5:
                return s.gone;
            case 6:
                return s.state == GONE ? s.due : now.dueBy(s.law, s, now.stayOf(s));
            case 7:
                return s.backPaid;
            case 8:
                return s.touches;
            case 9:
                return now.countAheadOf(ship);
            default:
                throw new NoSuchElementException("a ship has no such number");
        }
    }

    public int quay(int berth, int what)
            throws IndexOutOfBoundsException, NoSuchElementException {
        needIndex(berth, now.port.berthCount);
        Berth b = now.port.berths[berth];
        switch (what) {
            case 0:
                return b.cell;
            case 1:
                return b.load;
            case 2:
                return b.sunk();
            case 3:
                return b.holder;
            case 4:
                return b.overHours;
            case 5:
                return b.landed;
            default:
                throw new NoSuchElementException("a berth has no such number");
        }
    }

    public int window(int ship, int berth, boolean out)
            throws IndexOutOfBoundsException {
        needIndex(ship, now.port.shipCount);
        needIndex(berth, now.port.berthCount);
        return now.firstSafeHour(now.port.ships[ship], now.port.berths[berth].cell, out);
    }

    public int act(int day)
            throws IllegalArgumentException, IllegalStateException, UnsupportedOperationException {
        int length = useTape();
        needArgument(within(day, now.today(), LAST_DAY));
        Act text = reader.read(tape, length);
        if (text == null) {
            throw new IllegalArgumentException("the text is wrong");
        }
        needState(!now.purse.everPaid());
        needRoom(now.laws.acts, MOST_ACTS);
        now.laws.pass(text, day);
        return text.lines;
    }

    public int propose(int day)
            throws IllegalArgumentException, IllegalStateException, UnsupportedOperationException {
        int length = useTape();
        needArgument(within(day, now.today(), LAST_DAY));
        Act text = reader.read(tape, length);
        if (text == null) {
            throw new IllegalArgumentException("the text is wrong");
        }
        needState(!now.laws.voting);
        needRoom(now.laws.acts, MOST_ACTS);
        now.laws.beginVote(text, day);
        return text.lines;
    }

    public int fault() {
        return reader.wrong;
    }

    public int vote(int payer, boolean yes)
            throws IndexOutOfBoundsException, IllegalStateException {
        needIndex(payer, now.purse.payers);
        needState(now.laws.voting);
        return now.laws.say(payer, yes, now.votesOf(payer));
    }

    public boolean close()
            throws IllegalStateException {
        needState(now.laws.voting);
        return now.laws.endVote(now.today());
    }

    public int judge(int ship, int what)
            throws IndexOutOfBoundsException, NoSuchElementException {
        needIndex(ship, now.port.shipCount);
        Ship s = now.port.ships[ship];
        Act law = now.actOfToday();
        now.askOfShip(s, 0);
        switch (what) {
            case 0:
                return now.dueBy(law, s, 0);
            case 1:
                return law.firstThatHolds(TON, now.facts);
            case 2:
                return law.firstThatHolds(SHIP, now.facts);
            case 3:
                return law.greatest(BACK, now.facts);
            default:
                throw new NoSuchElementException("no such judgement");
        }
    }

    public int back(int ship)
            throws IndexOutOfBoundsException {
        needIndex(ship, now.port.shipCount);
        return now.payBack(now.port.ships[ship]);
    }

    public int pays(int payer, int what)
            throws IndexOutOfBoundsException, NoSuchElementException {
        needIndex(payer, now.purse.payers);
        switch (what) {
            case 0:
                return now.purse.paid[payer];
            case 1:
                return now.purse.last[payer];
            case 2:
                return now.votesOf(payer);
            case 3:
                return now.port.countShipsOf(payer);
            case 4:
                return now.purse.paidEver[payer];
            default:
                throw new NoSuchElementException("a payer has no such number");
        }
    }

    public int cash(int n)
            throws IllegalArgumentException {
        needArgument(within(n, 0, MILLION));
        now.purse.cash = capped((long) now.purse.cash + n);
        return now.purse.cash;
    }

    public int bond(int face, int rate, int rank, int term)
            throws IllegalArgumentException, UnsupportedOperationException {
        needArgument(within(face, 1, MILLION) && within(rate, 0, 2000));
        needArgument(within(rank, 0, 9) && within(term, 1, 30));
        needRoom(now.purse.bonds, MOST_BONDS);
        int borrowed = now.purse.borrowed(now.year());
        if (face + borrowed > now.actOfToday().lastNumber(BORROW, 0)) {
            return NONE;
        }
        return now.purse.sell(face, rate, rank, now.year() + term - 1);
    }

    public int owes(int bond, int what)
            throws IndexOutOfBoundsException, NoSuchElementException {
        needIndex(bond, now.purse.bonds);
        switch (what) {
            case 0:
                return now.purse.owed[bond];
            case 1:
                return now.purse.lastYears[bond] >= now.year() ? now.purse.faces[bond] : 0;
            case 2:
                return now.purse.paidOff[bond];
            case 3:
                return now.purse.lastYears[bond];
            default:
                throw new NoSuchElementException("a bond has no such number");
        }
    }

    public int bring() {
        return now.leastToBringIn();
    }

    public int work(int cost, int brings, int year, int less)
            throws IllegalArgumentException {
        needArgument(within(cost, 0, MILLION) && within(brings, 0, 100000));
        needArgument(within(year, 0, 29) && within(less, 0, 100));
        return now.plans.addWork(cost, brings * (100 - less) / 100, year);
    }

    public int worth(int cash, int set)
            throws IllegalArgumentException {
        needArgument(within(cash, 0, MILLION));
        return now.plans.worthOf(cash, set);
    }

    public int best(int cash)
            throws IllegalArgumentException {
        needArgument(within(cash, 0, MILLION));
        return now.plans.bestSet(cash);
    }

    public int another(int year, boolean elsewhere)
            throws IllegalArgumentException {
        Act text = reader.read(tape, useTape());
        if (text == null) {
            throw new IllegalArgumentException("the text is wrong");
        }
        return now.underAnother(text, year, elsewhere);
    }

    public void keep() {
        if (image == null) {
            image = new Board();
        }
        image.copyFrom(now);
    }

    public boolean again() {
        if (image == null) {
            return false;
        }
        now.copyFrom(image);
        return true;
    }

    public int count(int what) {
        switch (what) {
            case 0:
                return now.hour;
            case 1:
                return now.today();
            case 2:
                return now.year();
            case 3:
                return now.port.berthCount;
            case 4:
                return now.port.shipCount;
            case 5:
                return now.port.countInState(WAITING);
            case 6:
                return now.port.countInState(GONE);
            case 7:
                return now.port.freePilots();
            case 8:
                return now.port.loadOfAll();
            case 9:
                return now.port.carted;
            case 10:
                return now.purse.cash;
            case 11:
                return now.purse.dues;
            default:
                return countMore(what);
        }
    }

    private int countMore(int what) {
        switch (what) {
            case 12:
                return now.purse.backs;
            case 13:
                return now.port.countTouches();
            case 14:
                return now.river.ran;
            case 15:
                return now.river.toSea;
            case 16:
                return now.river.away;
            case 17:
                return now.soundings.told;
            case 18:
                return now.laws.acts;
            case 19:
                return now.actOfToday().lines;
            case 20:
                return now.purse.bonds;
            case 21:
                return now.purse.owedInAll();
            case 22:
                return sumOf(now.river.heap);
            case 23:
                return sumOf(now.river.bed);
            default:
                return NONE;
        }
    }

    private void addBytes(int number) {
        for (int shift = 24; shift >= 0 && taped < tape.length; shift -= 8) {
            tape[taped] = (byte) (number >> shift);
            taped++;
        }
    }

    private int useTape() {
        int length = taped;
        taped = 0;
        return length;
    }

    private static boolean within(int n, int least, int most) {
        return n >= least && n <= most;
    }

    private static void needCell(int cell) {
        needIndex(cell, CELLS);
    }

    private static void needCellOrNone(int cell) {
        if (cell != NONE) {
            needIndex(cell, CELLS);
        }
    }

    private static void needIndex(int index, int size) {
        if (index < 0 || index >= size) {
            throw new IndexOutOfBoundsException("there is no such one");
        }
    }

    private static void needArgument(boolean good) {
        if (!good) {
            throw new IllegalArgumentException("a number is none");
        }
    }

    private static void needState(boolean good) {
        if (!good) {
            throw new IllegalStateException("the call is not for now");
        }
    }

    private static void needRoom(int size, int most) {
        if (size >= most) {
            throw new UnsupportedOperationException("there are as many as there may be");
        }
    }

    private static int capped(long money) {
        return (int) Math.min(money, MOST_MONEY);
    }

    private static int sumOf(int[] row) {
        int sum = 0;
        for (int i = 0; i < row.length; i++) {
            sum += row[i];
        }
        return sum;
    }

    private static void copyRow(int[] from, int[] to) {
        System.arraycopy(from, 0, to, 0, Math.min(from.length, to.length));
    }

    /** All that THE IMAGE keeps, and what happens in an hour where several parts meet. */
    private static final class Board {
        int hour;
        final River river;
        final Soundings soundings;
        final Port port;
        final Purse purse;
        final Laws laws;
        final Plans plans;
        final int[] facts;
        final int[] depths;
        final int[] waysIn;

        Board() {
            hour = 0;
            river = new River();
            soundings = new Soundings();
            laws = new Laws();
            port = new Port(laws.noLines);
            purse = new Purse();
            plans = new Plans();
            facts = new int[FACTS];
            depths = new int[CELLS];
            waysIn = new int[CELLS];
        }

        void copyFrom(Board other) {
            hour = other.hour;
            river.copyFrom(other.river);
            soundings.copyFrom(other.soundings);
            port.copyFrom(other.port);
            purse.copyFrom(other.purse);
            laws.copyFrom(other.laws);
            plans.copyFrom(other.plans);
        }

        int today() {
            return hour / DAY_HOURS;
        }

        int year() {
            return hour / YEAR_HOURS;
        }

        Act actOfToday() {
            return laws.onDay(today());
        }

        void passHour() {
            hour++;
            Act law = actOfToday();
            int clearance = law.lastNumber(CLEAR, 5);
            port.nextHourOfPilots();
            port.arrive(hour);
            if (port.hasInState(READY)) {
                shipsLeave(clearance);
            }
            if (port.hasInState(WAITING)) {
                shipsComeIn(clearance, law.lastNumber(TURN, 0));
            }
            port.unload();
            port.cart();
            port.weigh();
            if (hour % DAY_HOURS == 0) {
                river.endDay(hour / DAY_HOURS - 1);
            }
            if (hour % YEAR_HOURS == 0) {
                purse.endYear(hour / YEAR_HOURS - 1);
            }
        }

        int depthAsOf(int cell, int asOf) {
            int latest = soundings.latest(cell, asOf);
            return latest == NONE ? river.natural[cell] : soundings.depths[latest];
        }

        /** KNOWN depths as of HOUR, where every sounding that was told counts. */
        private void fillDepths() {
            for (int c = 0; c < CELLS; c++) {
                int latest = soundings.counting[c];
                depths[c] = latest == NONE ? river.natural[c] : soundings.depths[latest];
            }
        }

        private void shipsLeave(int clearance) {
            fillDepths();
            for (int i = 0; i < port.shipCount; i++) {
                Ship s = port.ships[i];
                if (s.state == READY && port.freePilots() > 0) {
                    int cell = port.cellOf(s.berth);
                    if (river.bears(s.draughtOut + clearance, depths, cell, hour, true)) {
                        leave(s, cell);
                    }
                }
            }
        }

        private void leave(Ship s, int cell) {
            if (!river.bears(s.draughtOut, river.bed, cell, hour, true)) {
                s.touches++;
            }
            s.due = dueBy(s.law, s, stayOf(s));
            s.state = GONE;
            s.gone = hour;
            port.freeBerth(s.berth);
            port.takePilot(cell / CELLS_AN_HOUR + 1);
            purse.takeDue(s.payer, s.due);
        }

        /** One that could not come in ahead of another cannot do so behind it: there are but fewer berths then. */
        private void shipsComeIn(int clearance, int turn) {
            int most = deepestWayIn() - clearance;
            for (int n = 0; n < MOST_BERTHS && port.freePilots() > 0; n++) {
                int ship = firstThatCanComeIn(most, clearance, turn);
                if (ship == NONE) {
                    return;
                }
                comeIn(ship, port.firstBerthFor(port.ships[ship], clearance));
            }
        }

        /** Measures the ways in to all BERTHS; SHUT, if none is open. */
        private int deepestWayIn() {
            fillDepths();
            river.fillWaysIn(waysIn, depths, hour);
            int deepest = Berth.SHUT;
            for (int b = 0; b < port.berthCount; b++) {
                Berth berth = port.berths[b];
                boolean open = berth.holder == NONE && !berth.isClosed();
                berth.wayIn = open ? waysIn[berth.cell] : Berth.SHUT;
                deepest = Math.max(deepest, berth.wayIn);
            }
            return deepest;
        }

        /** Of those that draw no more than the most that any BERTH bears: a quick look, ahead of the BERTHS one by one. */
        private int firstThatCanComeIn(int most, int clearance, int turn) {
            int first = NONE;
            for (int i = 0; i < port.shipCount; i++) {
                Ship s = port.ships[i];
                if (s.state == WAITING && s.draughtIn <= most && (first == NONE || port.isAhead(i, first, turn))
                        && port.firstBerthFor(s, clearance) != NONE) {
                    first = i;
                }
            }
            return first;
        }

        private void comeIn(int ship, int berth) {
            if (berth < 0 || berth >= port.berthCount) {
                return;
            }
            Ship s = port.ships[ship];
            int cell = port.berths[berth].cell;
            if (!river.bears(s.draughtIn, river.bed, cell, hour, false)) {
                s.touches++;
            }
            s.berth = berth;
            s.there = hour + cell / CELLS_AN_HOUR;
            s.state = s.there == hour ? BERTHED : COMING;
            port.berths[berth].take(ship);
            port.takePilot(cell / CELLS_AN_HOUR + 1);
        }

        int countAheadOf(int ship) {
            if (port.ships[ship].state != WAITING) {
                return NONE;
            }
            int turn = actOfToday().lastNumber(TURN, 0);
            int ahead = 0;
            for (int i = 0; i < port.shipCount; i++) {
                if (port.ships[i].state == WAITING && port.isAhead(i, ship, turn)) {
                    ahead++;
                }
            }
            return ahead;
        }

        int firstSafeHour(Ship s, int cell, boolean out) {
            int need = (out ? s.draughtOut : s.draughtIn) + actOfToday().lastNumber(CLEAR, 5);
            fillDepths();
            for (int h = hour + 1; h <= hour + 50; h++) {
                if (river.bears(need, depths, cell, h, out)) {
                    return h;
                }
            }
            return NONE;
        }

        int stayOf(Ship s) {
            return (s.state == GONE ? s.gone : hour) - s.came;
        }

        void askOfShip(Ship s, int stay) {
            for (int good = 0; good < FOREIGN; good++) {
                facts[good] = s.good == good ? 1 : 0;
            }
            facts[FOREIGN] = s.foreign ? 1 : 0;
            facts[TONS] = s.tons;
            facts[LENGTH] = s.length;
            facts[STAY] = stay;
            facts[PAID] = 0;
            facts[LAST] = 0;
        }

        int dueBy(Act law, Ship s, int stay) {
            askOfShip(s, stay);
            return capped((long) law.sum(TON, facts) * s.tons + law.sum(SHIP, facts));
        }

        int payBack(Ship s) {
            if (s.state != GONE || s.hadBack) {
                return NONE;
            }
            askOfShip(s, stayOf(s));
            long hundredths = s.law.greatest(BACK, facts);
            s.backPaid = purse.giveBack((int) (hundredths * s.due / 100));
            s.hadBack = true;
            return s.backPaid;
        }

        int votesOf(int payer) {
            Arrays.fill(facts, 0);
            facts[PAID] = purse.paid[payer];
            facts[LAST] = purse.last[payer];
            return actOfToday().sum(VOTE, facts);
        }

        int underAnother(Act law, int year, boolean elsewhere) {
            long brought = 0;
            int lost = 0;
            for (int i = 0; i < port.shipCount; i++) {
                Ship s = port.ships[i];
                if (s.state == GONE && s.gone / YEAR_HOURS == year) {
                    int due = dueBy(law, s, stayOf(s));
                    if (due > s.most) {
                        lost++;
                    } else {
                        brought += due;
                    }
                }
            }
            return elsewhere ? lost : capped(brought);
        }

        int leastToBringIn() {
            Act law = actOfToday();
            int turn = law.lastNumber(TURN, 0);
            int clearance = law.lastNumber(CLEAR, 5);
            fillDepths();
            plans.beginBringing();
            int ship = port.nextInTurn(NONE, turn);
            for (int n = 0; n < Plans.BROUGHT && ship != NONE; n++) {
                plans.addWaiting(port.ships[ship], clearance);
                ship = port.nextInTurn(ship, turn);
            }
            for (int h = 0; h < TIDES; h++) {
                river.fillWaysIn(plans.waysIn[h], depths, hour + h);
            }
            for (int b = 0; b < port.berthCount; b++) {
                if (!port.berths[b].isClosed()) {
                    plans.useBerth(port.berths[b]);
                }
            }
            return plans.leastSum();
        }
    }

    /** CELLS, TIDE, RUN and DREDGERS. */
    private static final class River {
        final int[] bed;
        final int[] natural;
        final int[] heap;
        final int[] tides;
        final int[] runDays;
        final int[] runSizes;
        int runs;
        final int[] digs;
        final int[] posts;
        final int[] lays;
        int dredgers;
        int ran;
        int toSea;
        int away;

        River() {
            bed = new int[CELLS];
            natural = new int[CELLS];
            heap = new int[CELLS];
            tides = new int[TIDES];
            runDays = new int[MOST_RUNS];
            runSizes = new int[MOST_RUNS];
            digs = new int[MOST_DREDGERS];
            posts = new int[MOST_DREDGERS];
            lays = new int[MOST_DREDGERS];
            Arrays.fill(bed, 20);
            Arrays.fill(natural, 20);
        }

        void copyFrom(River other) {
            copyRow(other.bed, bed);
            copyRow(other.natural, natural);
            copyRow(other.heap, heap);
            copyRow(other.tides, tides);
            copyRow(other.runDays, runDays);
            copyRow(other.runSizes, runSizes);
            runs = other.runs;
            copyRow(other.digs, digs);
            copyRow(other.posts, posts);
            copyRow(other.lays, lays);
            dredgers = other.dredgers;
            ran = other.ran;
            toSea = other.toSea;
            away = other.away;
        }

        int tellRun(int day, int size) {
            if (runs >= MOST_RUNS) {
                return NONE;
            }
            runDays[runs] = day;
            runSizes[runs] = size;
            runs++;
            return runs;
        }

        int addDredger(int digsSo) {
            digs[dredgers] = digsSo;
            posts[dredgers] = NONE;
            lays[dredgers] = NONE;
            dredgers++;
            return dredgers - 1;
        }

        boolean send(int dredger, int cell, int to) {
            boolean other = posts[dredger] != cell || lays[dredger] != to;
            posts[dredger] = cell;
            lays[dredger] = to;
            return other;
        }

        /** Whether the depths and the tide are enough all along a way that begins at an hour. */
        boolean bears(int draught, int[] deep, int berthCell, int hour, boolean out) {
            for (int c = 0; c <= berthCell && c < deep.length; c++) {
                int passed = out ? berthCell - c : c;
                if (deep[c] + tides[(hour + passed / CELLS_AN_HOUR) % TIDES] < draught) {
                    return false;
                }
            }
            return true;
        }

        /** For each CELL the least of the depths and the tide on a way in to it that begins at an hour. */
        void fillWaysIn(int[] ways, int[] deep, int hour) {
            int least = DEEPEST * 10;
            for (int c = 0; c < ways.length && c < deep.length; c++) {
                least = Math.min(least, deep[c] + tides[(hour + c / CELLS_AN_HOUR) % TIDES]);
                ways[c] = least;
            }
        }

        void endDay(int day) {
            silt(runOf(day));
            for (int d = 0; d < dredgers; d++) {
                dig(d);
            }
            for (int c = 0; c < CELLS; c++) {
                while (heap[c] >= HEAP_OF_A_FOOT && bed[c] > 0) {
                    heap[c] -= HEAP_OF_A_FOOT;
                    bed[c]--;
                }
            }
        }

        private int runOf(int day) {
            int found = NONE;
            for (int i = 0; i < runs; i++) {
                if (runDays[i] <= day && (found == NONE || runDays[i] >= runDays[found])) {
                    found = i;
                }
            }
            return found == NONE ? 0 : runSizes[found];
        }

        private void silt(int size) {
            ran += size;
            int carried = size;
            for (int c = CELLS - 1; c >= 0; c--) {
                int share = Math.min(60, 5 + Math.max(0, bed[c] - natural[c]));
                int settles = carried * share / 100;
                heap[c] += settles;
                carried -= settles;
            }
            toSea += carried;
        }

        private void dig(int dredger) {
            int c = posts[dredger];
            if (c < 0 || c >= CELLS) {
                return;
            }
            int took = digs[dredger];
            heap[c] -= took;
            while (heap[c] < 0 && bed[c] < DEEPEST) {
                bed[c]++;
                heap[c] += HEAP_OF_A_FOOT;
            }
            if (heap[c] < 0) {
                took += heap[c];
                heap[c] = 0;
            }
            int to = lays[dredger];
            if (to < 0 || to >= CELLS) {
                away += took;
            } else {
                heap[to] += took;
            }
        }
    }

    /** SOUNDINGS in the order in which they were told. */
    private static final class Soundings {
        final int[] cells;
        final int[] days;
        final int[] depths;
        final int[] hours;
        int told;
        /** Of each CELL the sounding that counts as of HOUR, kept so that an hour need not look through all. */
        final int[] counting;

        Soundings() {
            cells = new int[MOST_SOUNDINGS];
            days = new int[MOST_SOUNDINGS];
            depths = new int[MOST_SOUNDINGS];
            hours = new int[MOST_SOUNDINGS];
            counting = new int[CELLS];
            Arrays.fill(counting, NONE);
        }

        void copyFrom(Soundings other) {
            copyRow(other.cells, cells);
            copyRow(other.days, days);
            copyRow(other.depths, depths);
            copyRow(other.hours, hours);
            told = other.told;
            copyRow(other.counting, counting);
        }

        int tell(int cell, int day, int depth, int hour) {
            if (told >= MOST_SOUNDINGS) {
                return NONE;
            }
            cells[told] = cell;
            days[told] = day;
            depths[told] = depth;
            hours[told] = hour;
            told++;
            counting[cell] = latest(cell, hour);
            return told - 1;
        }

        int latest(int cell, int asOf) {
            int found = NONE;
            for (int i = 0; i < told; i++) {
                if (cells[i] == cell && hours[i] <= asOf && (found == NONE || days[i] >= days[found])) {
                    found = i;
                }
            }
            return found;
        }
    }

    /** BERTHS, SHIPS, PILOTS and WAGONS. */
    private static final class Port {
        final Berth[] berths;
        int berthCount;
        final Ship[] ships;
        int shipCount;
        int pilots;
        int wagons;
        /** How many PILOTS are busy in the latest HOUR, the next one and so on: no way is longer. */
        final int[] busy;
        int carted;

        Port(Act noLines) {
            berths = new Berth[MOST_BERTHS];
            for (int i = 0; i < MOST_BERTHS; i++) {
                berths[i] = new Berth();
            }
            ships = new Ship[MOST_SHIPS];
            for (int i = 0; i < MOST_SHIPS; i++) {
                ships[i] = new Ship(noLines);
            }
            pilots = 2;
            wagons = 1;
            busy = new int[CELLS / CELLS_AN_HOUR];
        }

        void copyFrom(Port other) {
            berthCount = other.berthCount;
            for (int i = 0; i < berthCount; i++) {
                berths[i].copyFrom(other.berths[i]);
            }
            shipCount = other.shipCount;
            for (int i = 0; i < shipCount; i++) {
                ships[i].copyFrom(other.ships[i]);
            }
            pilots = other.pilots;
            wagons = other.wagons;
            copyRow(other.busy, busy);
            carted = other.carted;
        }

        int addBerth(int cell, int length, int crane, int limit) {
            berths[berthCount].build(cell, length, crane, limit);
            berthCount++;
            return berthCount - 1;
        }

        void nextHourOfPilots() {
            for (int i = 1; i < busy.length; i++) {
                busy[i - 1] = busy[i];
            }
            busy[busy.length - 1] = 0;
        }

        int freePilots() {
            return Math.max(0, pilots - busy[0]);
        }

        void takePilot(int hours) {
            for (int i = 0; i < hours && i < busy.length; i++) {
                busy[i]++;
            }
        }

        int cellOf(int berth) {
            return berth >= 0 && berth < berthCount ? berths[berth].cell : 0;
        }

        void freeBerth(int berth) {
            if (berth >= 0 && berth < berthCount) {
                berths[berth].holder = NONE;
            }
        }

        /** The SHIP that has a BERTH, or null. */
        private Ship holderOf(int berth) {
            int holder = berths[berth].holder;
            return holder >= 0 && holder < shipCount ? ships[holder] : null;
        }

        boolean hasInState(int state) {
            for (int i = 0; i < shipCount; i++) {
                if (ships[i].state == state) {
                    return true;
                }
            }
            return false;
        }

        /** The first BERTH that a SHIP can go to in this HOUR, by the ways in that were measured for it. */
        int firstBerthFor(Ship s, int clearance) {
            for (int b = 0; b < berthCount; b++) {
                Berth berth = berths[b];
                if (berth.length >= s.length && berth.wayIn >= s.draughtIn + clearance) {
                    return b;
                }
            }
            return NONE;
        }

        boolean isAhead(int ship, int other, int turn) {
            int mine = ships[ship].turnValue(turn);
            int its = ships[other].turnValue(turn);
            return mine < its || mine == its && ship < other;
        }

        /** The WAITING one next behind another in TURN (behind NONE: the first of all). */
        int nextInTurn(int behind, int turn) {
            int next = NONE;
            for (int i = 0; i < shipCount; i++) {
                if (ships[i].state == WAITING && (behind == NONE || isAhead(behind, i, turn))
                        && (next == NONE || isAhead(i, next, turn))) {
                    next = i;
                }
            }
            return next;
        }

        void arrive(int hour) {
            for (int b = 0; b < berthCount; b++) {
                Ship s = holderOf(b);
                if (s != null && s.state == COMING && s.there <= hour) {
                    s.state = BERTHED;
                }
            }
        }

        void unload() {
            for (int b = 0; b < berthCount; b++) {
                Ship s = holderOf(b);
                if (s != null && s.state == BERTHED) {
                    int tons = Math.min(berths[b].crane, s.left);
                    s.left -= tons;
                    berths[b].load += tons;
                    berths[b].landed += tons;
                    if (s.left == 0) {
                        s.state = READY;
                    }
                }
            }
        }

        void cart() {
            for (int w = 0; w < wagons; w++) {
                int from = fullestBerth();
                if (from == NONE) {
                    return;
                }
                int tons = Math.min(10, berths[from].load);
                berths[from].load -= tons;
                carted += tons;
            }
        }

        private int fullestBerth() {
            int found = NONE;
            int most = 0;
            for (int b = 0; b < berthCount; b++) {
                if (berths[b].load > most) {
                    most = berths[b].load;
                    found = b;
                }
            }
            return found;
        }

        void weigh() {
            for (int b = 0; b < berthCount; b++) {
                if (berths[b].load > berths[b].limit) {
                    berths[b].overHours++;
                }
            }
        }

        int countInState(int state) {
            int found = 0;
            for (int i = 0; i < shipCount; i++) {
                if (ships[i].state == state) {
                    found++;
                }
            }
            return found;
        }

        int countShipsOf(int payer) {
            int found = 0;
            for (int i = 0; i < shipCount; i++) {
                if (ships[i].payer == payer) {
                    found++;
                }
            }
            return found;
        }

        int countTouches() {
            int found = 0;
            for (int i = 0; i < shipCount; i++) {
                found += ships[i].touches;
            }
            return found;
        }

        int loadOfAll() {
            int sum = 0;
            for (int b = 0; b < berthCount; b++) {
                sum += berths[b].load;
            }
            return sum;
        }
    }

    private static final class Berth {
        /** A way in that is too shallow for every SHIP. */
        static final int SHUT = -1000;

        int cell;
        int length;
        int crane;
        int limit;
        int load;
        int overHours;
        int landed;
        int holder;
        /** How shallow the way in is that begins in the latest HOUR, as it was measured; SHUT, if it is not open. */
        int wayIn;

        void build(int atCell, int itsLength, int itsCrane, int itsLimit) {
            cell = atCell;
            length = itsLength;
            crane = itsCrane;
            limit = itsLimit;
            load = 0;
            overHours = 0;
            landed = 0;
            holder = NONE;
            wayIn = SHUT;
        }

        void copyFrom(Berth other) {
            cell = other.cell;
            length = other.length;
            crane = other.crane;
            limit = other.limit;
            load = other.load;
            overHours = other.overHours;
            landed = other.landed;
            holder = other.holder;
        }

        int sunk() {
            return overHours / 24;
        }

        boolean isClosed() {
            return sunk() >= 10;
        }

        void take(int ship) {
            holder = ship;
            wayIn = SHUT;
        }
    }

    private static final class Ship {
        int good;
        int tons;
        int length;
        boolean foreign;
        int draughtIn;
        int draughtOut;
        int payer;
        int most;
        /** The ACT by which it goes, whatever is told later. */
        Act law;
        int came;
        int state;
        int berth;
        int left;
        int there;
        int gone;
        int due;
        int backPaid;
        boolean hadBack;
        int touches;

        Ship(Act noLines) {
            law = noLines;
        }

        void build(int itsGood, int itsTons, int itsLength, boolean isForeign) {
            good = itsGood;
            tons = itsTons;
            length = itsLength;
            foreign = isForeign;
        }

        void come(int hour, Act itsLaw) {
            law = itsLaw;
            came = hour;
            state = WAITING;
            berth = NONE;
            left = tons;
            there = NONE;
            gone = NONE;
            due = 0;
            backPaid = 0;
            hadBack = false;
            touches = 0;
        }

        void copyFrom(Ship other) {
            build(other.good, other.tons, other.length, other.foreign);
            draughtIn = other.draughtIn;
            draughtOut = other.draughtOut;
            payer = other.payer;
            most = other.most;
            law = other.law;
            came = other.came;
            state = other.state;
            berth = other.berth;
            left = other.left;
            there = other.there;
            gone = other.gone;
            due = other.due;
            backPaid = other.backPaid;
            hadBack = other.hadBack;
            touches = other.touches;
        }

        /** The least of these is first in TURN. */
        int turnValue(int turn) {
            return turn >= DOWN ? -keyValue(turn - DOWN) : keyValue(turn);
        }

        private int keyValue(int key) {
            switch (key) {
                case BY_TONS:
                    return tons;
                case BY_LENGTH:
                    return length;
                case BY_GOOD:
                    return good;
                default:
                    return came;
            }
        }
    }

    /** CASH, PAYERS and BONDS. */
    private static final class Purse {
        int cash;
        int dues;
        int backs;
        final int[] paid;
        final int[] last;
        final int[] paidEver;
        int payers;
        final int[] faces;
        final int[] rates;
        final int[] ranks;
        final int[] lastYears;
        final int[] owed;
        final int[] paidOff;
        int bonds;

        Purse() {
            paid = new int[MOST_PAYERS];
            last = new int[MOST_PAYERS];
            paidEver = new int[MOST_PAYERS];
            faces = new int[MOST_BONDS];
            rates = new int[MOST_BONDS];
            ranks = new int[MOST_BONDS];
            lastYears = new int[MOST_BONDS];
            owed = new int[MOST_BONDS];
            paidOff = new int[MOST_BONDS];
        }

        void copyFrom(Purse other) {
            cash = other.cash;
            dues = other.dues;
            backs = other.backs;
            copyRow(other.paid, paid);
            copyRow(other.last, last);
            copyRow(other.paidEver, paidEver);
            payers = other.payers;
            copyRow(other.faces, faces);
            copyRow(other.rates, rates);
            copyRow(other.ranks, ranks);
            copyRow(other.lastYears, lastYears);
            copyRow(other.owed, owed);
            copyRow(other.paidOff, paidOff);
            bonds = other.bonds;
        }

        int addPayer() {
            paid[payers] = 0;
            last[payers] = 0;
            paidEver[payers] = 0;
            payers++;
            return payers - 1;
        }

        boolean everPaid() {
            for (int p = 0; p < payers; p++) {
                if (paidEver[p] > 0) {
                    return true;
                }
            }
            return false;
        }

        void takeDue(int payer, int due) {
            paid[payer] = capped((long) paid[payer] + due);
            paidEver[payer] = capped((long) paidEver[payer] + due);
            dues = capped((long) dues + due);
            cash = capped((long) cash + due);
        }

        int giveBack(int asked) {
            int given = Math.min(asked, cash);
            cash -= given;
            backs = capped((long) backs + given);
            return given;
        }

        /** The FACES of all BONDS that still count against what may be borrowed. */
        int borrowed(int year) {
            int sum = 0;
            for (int b = 0; b < bonds; b++) {
                if (lastYears[b] >= year || owed[b] > 0) {
                    sum += faces[b];
                }
            }
            return sum;
        }

        int sell(int face, int rate, int rank, int lastYear) {
            faces[bonds] = face;
            rates[bonds] = rate;
            ranks[bonds] = rank;
            lastYears[bonds] = lastYear;
            owed[bonds] = 0;
            paidOff[bonds] = 0;
            cash = capped((long) cash + face);
            bonds++;
            return bonds - 1;
        }

        int owedInAll() {
            int sum = 0;
            for (int b = 0; b < bonds; b++) {
                sum += owed[b];
            }
            return sum;
        }

        void endYear(int year) {
            for (int b = 0; b < bonds; b++) {
                if (lastYears[b] >= year) {
                    owed[b] += faces[b] * rates[b] / 10000;
                }
                if (lastYears[b] == year) {
                    owed[b] += faces[b];
                }
            }
            for (int rank = 0; rank < 10; rank++) {
                payRank(rank);
            }
            for (int p = 0; p < payers; p++) {
                last[p] = paid[p];
                paid[p] = 0;
            }
        }

        private void payRank(int rank) {
            for (int b = 0; b < bonds; b++) {
                if (ranks[b] == rank) {
                    int pay = Math.min(cash, owed[b]);
                    owed[b] -= pay;
                    paidOff[b] += pay;
                    cash -= pay;
                }
            }
        }
    }

    /** ACTS in the order in which they came, and the VOTE that goes on. */
    private static final class Laws {
        final Act noLines;
        final Act[] texts;
        final int[] days;
        int acts;
        boolean voting;
        Act proposed;
        int proposedDay;
        final boolean[] said;
        int yes;
        int all;

        Laws() {
            noLines = new Act(0, new int[0], new int[0], new int[0], new int[0], new int[0]);
            texts = new Act[MOST_ACTS];
            for (int i = 0; i < MOST_ACTS; i++) {
                texts[i] = noLines;
            }
            days = new int[MOST_ACTS];
            proposed = noLines;
            said = new boolean[MOST_PAYERS];
        }

        void copyFrom(Laws other) {
            acts = other.acts;
            for (int i = 0; i < acts; i++) {
                texts[i] = other.texts[i];
            }
            copyRow(other.days, days);
            voting = other.voting;
            proposed = other.proposed;
            proposedDay = other.proposedDay;
            for (int p = 0; p < MOST_PAYERS; p++) {
                said[p] = other.said[p];
            }
            yes = other.yes;
            all = other.all;
        }

        Act onDay(int day) {
            int found = NONE;
            for (int i = 0; i < acts; i++) {
                if (days[i] <= day && (found == NONE || days[i] >= days[found])) {
                    found = i;
                }
            }
            return found == NONE ? noLines : texts[found];
        }

        void pass(Act text, int day) {
            texts[acts] = text;
            days[acts] = day;
            acts++;
        }

        void beginVote(Act text, int day) {
            voting = true;
            proposed = text;
            proposedDay = day;
            for (int p = 0; p < MOST_PAYERS; p++) {
                said[p] = false;
            }
            yes = 0;
            all = 0;
        }

        int say(int payer, boolean isYes, int votes) {
            if (said[payer]) {
                return NONE;
            }
            said[payer] = true;
            all += votes;
            if (isYes) {
                yes += votes;
            }
            return votes;
        }

        boolean endVote(int today) {
            voting = false;
            long needed = (long) onDay(today).lastNumber(PASS, 50) * all;
            boolean passes = yes * 100L > needed && acts < MOST_ACTS;
            if (passes) {
                pass(proposed, Math.max(proposedDay, today));
            }
            proposed = noLines;
            return passes;
        }
    }

    /** The LINES of a text that was read; nothing changes it. */
    private static final class Act {
        /** Steps of conditions: below these, a fact below its limit, then a fact above its limit. */
        static final int ABOVE = FACTS;
        static final int NOT = 2 * FACTS;
        static final int AND = NOT + 1;
        static final int OR = NOT + 2;

        final int lines;
        private final int[] kinds;
        private final int[] numbers;
        /** Where the steps of each LINE's condition end; they begin where those of the one ahead end. */
        private final int[] ends;
        private final int[] steps;
        private final int[] limits;

        Act(int lines, int[] kinds, int[] numbers, int[] ends, int[] steps, int[] limits) {
            this.lines = lines;
            this.kinds = kinds;
            this.numbers = numbers;
            this.ends = ends;
            this.steps = steps;
            this.limits = limits;
        }

        int sum(int kind, int[] facts) {
            int sum = 0;
            for (int i = 0; i < lines; i++) {
                if (kinds[i] == kind && holds(i, facts)) {
                    sum += numbers[i];
                }
            }
            return sum;
        }

        int greatest(int kind, int[] facts) {
            int most = 0;
            for (int i = 0; i < lines; i++) {
                if (kinds[i] == kind && numbers[i] > most && holds(i, facts)) {
                    most = numbers[i];
                }
            }
            return most;
        }

        int firstThatHolds(int kind, int[] facts) {
            for (int i = 0; i < lines; i++) {
                if (kinds[i] == kind && holds(i, facts)) {
                    return i;
                }
            }
            return NONE;
        }

        int lastNumber(int kind, int without) {
            for (int i = lines - 1; i >= 0; i--) {
                if (kinds[i] == kind) {
                    return numbers[i];
                }
            }
            return without;
        }

        /** The answers that wait for and, or, not are bits, the latest the lowest: 15 at most for 6 deep. */
        private boolean holds(int line, int[] facts) {
            int bits = 1;
            for (int i = line == 0 ? 0 : ends[line - 1]; i < ends[line]; i++) {
                int step = steps[i];
                int latest = bits & 1;
                if (step == NOT) {
                    bits ^= 1;
                } else if (step == AND) {
                    bits = latest == 1 ? bits >> 1 : bits >> 1 & ~1;
                } else if (step == OR) {
                    bits = bits >> 1 | latest;
                } else {
                    boolean so = step >= ABOVE ? facts[step - ABOVE] > limits[i] : facts[step] < limits[i];
                    bits = bits << 1 | (so ? 1 : 0);
                }
            }
            return (bits & 1) == 1;
        }
    }

    /** Reads the text of an ACT: first into things (words, numbers, signs), then LINE by LINE. */
    private static final class Reader {
        private static final int WORD_WIDTH = 8;
        private static final String LINE_WORDS =
            "ton     ship    back    vote    turn    clear   pass    borrow  ";
        private static final String FACT_WORDS =
            "coal    grain   timber  cotton  ore     mail    foreign tons    long    stay    paid    last    ";
        private static final String OTHER_WORDS =
            "come    good    if      or      and     not     down    ";

        /** What a thing is: a sign is itself, a word the place in its row, a number itself behind NUMBERS. */
        private static final int END = -2;
        private static final int LINE_WORD = 200;
        private static final int FACT_WORD = 300;
        private static final int COME_WORD = 400;
        private static final int GOOD_WORD = 401;
        private static final int IF_WORD = 402;
        private static final int OR_WORD = 403;
        private static final int AND_WORD = 404;
        private static final int NOT_WORD = 405;
        private static final int DOWN_WORD = 406;
        private static final int NUMBERS = 1000;

        private static final int MOST_DIGITS = 6;
        private static final int MOST_DEEP = 6;

        int wrong;
        private final int[] things;
        private final int[] begins;
        private int size;
        private int at;
        private final int[] kinds;
        private final int[] numbers;
        private final int[] ends;
        private int lines;
        private final int[] steps;
        private final int[] limits;
        private int stepped;

        Reader() {
            wrong = NONE;
            things = new int[TAPE_BYTES + 1];
            begins = new int[TAPE_BYTES + 1];
            kinds = new int[MOST_LINES];
            numbers = new int[MOST_LINES];
            ends = new int[MOST_LINES];
            steps = new int[TAPE_BYTES];
            limits = new int[TAPE_BYTES];
        }

        /** The ACT, or null if the text is wrong. */
        Act read(byte[] text, int length) {
            findThings(text, Math.min(length, text.length));
            at = 0;
            lines = 0;
            stepped = 0;
            boolean more = thing() != END;
            boolean right = true;
            for (int n = 0; n < MOST_LINES && right && more; n++) {
                right = readLine();
                more = thing() != END;
                if (right && more) {
                    right = thing() == ';';
                    at += right ? 1 : 0;
                }
            }
            if (!right || more) {
                wrong = begins[Math.min(at, size - 1)];
                return null;
            }
            wrong = NONE;
            return new Act(lines, Arrays.copyOf(kinds, lines), Arrays.copyOf(numbers, lines),
                Arrays.copyOf(ends, lines), Arrays.copyOf(steps, stepped), Arrays.copyOf(limits, stepped));
        }

        private void findThings(byte[] text, int length) {
            size = 0;
            int from = 0;
            while (from < length) {
                int to = from + 1;
                while (to < length && goesOn(text[from], text[to])) {
                    to++;
                }
                if (text[from] != ' ') {
                    addThing(thingOf(text, from, to), from);
                }
                from = to;
            }
            addThing(END, length);
        }

        private void addThing(int thing, int begin) {
            if (size < things.length) {
                things[size] = thing;
                begins[size] = begin;
                size++;
            }
        }

        private static boolean goesOn(int sign, int next) {
            return isLetter(sign) && isLetter(next) || isDigit(sign) && isDigit(next);
        }

        private static boolean isLetter(int sign) {
            return sign >= 'a' && sign <= 'z';
        }

        private static boolean isDigit(int sign) {
            return sign >= '0' && sign <= '9';
        }

        private static int thingOf(byte[] text, int from, int to) {
            int sign = text[from];
            if (isLetter(sign)) {
                return wordOf(text, from, to);
            }
            if (isDigit(sign)) {
                return numberOf(text, from, to);
            }
            boolean known = sign == ';' || sign == '(' || sign == ')' || sign == '<' || sign == '>';
            return known ? sign : NONE;
        }

        private static int numberOf(byte[] text, int from, int to) {
            if (to - from > MOST_DIGITS) {
                return NONE;
            }
            int number = 0;
            for (int i = from; i < to; i++) {
                number = number * 10 + text[i] - '0';
            }
            return NUMBERS + number;
        }

        private static int wordOf(byte[] text, int from, int to) {
            int place = placeOf(LINE_WORDS, text, from, to);
            if (place != NONE) {
                return LINE_WORD + place;
            }
            place = placeOf(FACT_WORDS, text, from, to);
            if (place != NONE) {
                return FACT_WORD + place;
            }
            place = placeOf(OTHER_WORDS, text, from, to);
            return place == NONE ? NONE : COME_WORD + place;
        }

        private static int placeOf(String words, byte[] text, int from, int to) {
            int length = to - from;
            if (length >= WORD_WIDTH) {
                return NONE;
            }
            for (int word = 0; word + WORD_WIDTH <= words.length(); word += WORD_WIDTH) {
                int same = 0;
                while (same < length && words.charAt(word + same) == text[from + same]) {
                    same++;
                }
                if (same == length && words.charAt(word + length) == ' ') {
                    return word / WORD_WIDTH;
                }
            }
            return NONE;
        }

        private int thing() {
            return at < size ? things[at] : END;
        }

        private void addStep(int step, int limit) {
            if (stepped < steps.length) {
                steps[stepped] = step;
                limits[stepped] = limit;
                stepped++;
            }
        }

        private boolean readLine() {
            int kind = thing() - LINE_WORD;
            if (kind < TON || kind > BORROW || lines >= MOST_LINES) {
                return false;
            }
            at++;
            int number = kind == TURN ? keyOf(thing()) : thing() - NUMBERS;
            if (number < 0 || number > mostOf(kind)) {
                return false;
            }
            at++;
            if (kind == TURN && thing() == DOWN_WORD) {
                number += DOWN;
                at++;
            }
            if (kind <= VOTE && thing() == IF_WORD) {
                at++;
                if (!readAny(0)) {
                    return false;
                }
            }
            kinds[lines] = kind;
            numbers[lines] = number;
            ends[lines] = stepped;
            lines++;
            return true;
        }

        private static int keyOf(int thing) {
            switch (thing) {
                case COME_WORD:
                    return 0;
                case FACT_WORD + TONS:
                    return BY_TONS;
                case FACT_WORD + LENGTH:
                    return BY_LENGTH;
                case GOOD_WORD:
                    return BY_GOOD;
                default:
                    return NONE;
            }
        }

        private static int mostOf(int kind) {
            if (kind == BACK || kind == PASS) {
                return 100;
            }
            return kind == CLEAR ? 50 : MILLION - 1;
        }

        private boolean readAny(int deep) {
            if (!readAll(deep)) {
                return false;
            }
            while (at < size && things[at] == OR_WORD) {
                at++;
                if (!readAll(deep)) {
                    return false;
                }
                addStep(Act.OR, 0);
            }
            return true;
        }

        private boolean readAll(int deep) {
            if (!readAtom(deep)) {
                return false;
            }
            while (at < size && things[at] == AND_WORD) {
                at++;
                if (!readAtom(deep)) {
                    return false;
                }
                addStep(Act.AND, 0);
            }
            return true;
        }

        /** Whatever is wrong, at stays on the thing that cannot stand there. */
        private boolean readAtom(int deep) {
            int thing = thing();
            if (thing == NOT_WORD || thing == '(') {
                if (deep >= MOST_DEEP) {
                    return false;
                }
                at++;
                return thing == '(' ? readClosed(deep + 1) : readDenied(deep + 1);
            }
            int fact = thing - FACT_WORD;
            if (fact < 0 || fact >= FACTS) {
                return false;
            }
            at++;
            if (fact < TONS) {
                addStep(Act.ABOVE + fact, 0);
                return true;
            }
            return readLimit(fact);
        }

        private boolean readClosed(int deep) {
            if (!readAny(deep) || thing() != ')') {
                return false;
            }
            at++;
            return true;
        }

        private boolean readDenied(int deep) {
            if (!readAtom(deep)) {
                return false;
            }
            addStep(Act.NOT, 0);
            return true;
        }

        private boolean readLimit(int fact) {
            boolean above = thing() == '>';
            if (!above && thing() != '<') {
                return false;
            }
            at++;
            int limit = thing() - NUMBERS;
            if (limit < 0) {
                return false;
            }
            at++;
            addStep(above ? Act.ABOVE + fact : fact, limit);
            return true;
        }
    }

    /** WORKS, and the rows in which BRINGING IN is reckoned. */
    private static final class Plans {
        static final int BROUGHT = 4;
        private static final int HOURS_AHEAD = 72;
        private static final int YEARS = 30;
        private static final int NO_WAY = MILLION;

        private final int[] costs;
        private final int[] leasts;
        private final int[] years;
        private int works;

        private final int[] needs;
        private final int[] tons;
        private final int[] lengths;
        private int waiting;
        /** The ways in to each CELL, by the hours behind HOUR in which they begin, modulo TIDES. */
        final int[][] waysIn;
        /** How long each waiting SHIP would hold the berth in hand; 0 if it is too long for it. */
        private final int[] holds;
        /** The least sum for each set of SHIPS: at the berth in hand; at all berths up to it. */
        private final int[] here;
        private final int[] sums;

        Plans() {
            costs = new int[MOST_WORKS];
            leasts = new int[MOST_WORKS];
            years = new int[MOST_WORKS];
            needs = new int[BROUGHT];
            tons = new int[BROUGHT];
            lengths = new int[BROUGHT];
            waysIn = new int[TIDES][CELLS];
            holds = new int[BROUGHT];
            here = new int[1 << BROUGHT];
            sums = new int[1 << BROUGHT];
        }

        void copyFrom(Plans other) {
            copyRow(other.costs, costs);
            copyRow(other.leasts, leasts);
            copyRow(other.years, years);
            works = other.works;
        }

        int addWork(int cost, int least, int year) {
            if (works >= MOST_WORKS) {
                return NONE;
            }
            costs[works] = cost;
            leasts[works] = least;
            years[works] = year;
            works++;
            return works;
        }

        int worthOf(int cash, int set) {
            int money = cash;
            int standing = 0;
            for (int year = 0; year < YEARS; year++) {
                for (int w = 0; w < works; w++) {
                    if ((standing >> w & 1) == 1) {
                        money += leasts[w];
                    }
                }
                for (int w = 0; w < works; w++) {
                    if ((set >> w & 1) == 1 && years[w] == year && costs[w] <= money) {
                        money -= costs[w];
                        standing |= 1 << w;
                    }
                }
            }
            return money;
        }

        int bestSet(int cash) {
            int best = 0;
            int most = worthOf(cash, 0);
            for (int set = 1; set < 1 << works; set++) {
                int worth = worthOf(cash, set);
                if (worth > most || worth == most && Integer.bitCount(set) < Integer.bitCount(best)) {
                    best = set;
                    most = worth;
                }
            }
            return best;
        }

        void beginBringing() {
            waiting = 0;
            Arrays.fill(sums, NO_WAY);
            sums[0] = 0;
        }

        void addWaiting(Ship s, int clearance) {
            if (waiting < BROUGHT) {
                needs[waiting] = s.draughtIn + clearance;
                tons[waiting] = s.tons;
                lengths[waiting] = s.length;
                waiting++;
            }
        }

        /** At one berth, in a given order, each as early as it can be is the least; so orders are all there is to try. */
        void useBerth(Berth berth) {
            if (berth.crane <= 0) {
                return;
            }
            for (int i = 0; i < waiting; i++) {
                int unloads = (tons[i] + berth.crane - 1) / berth.crane;
                int stays = unloads + berth.cell / CELLS_AN_HOUR + 6;
                holds[i] = lengths[i] <= berth.length ? stays : 0;
            }
            Arrays.fill(here, NO_WAY);
            layOn(berth.cell, 0, berth.holder == NONE ? 1 : 24, 0);
            for (int set = (1 << waiting) - 1; set > 0; set--) {
                joinSets(set);
            }
        }

        private void layOn(int cell, int set, int from, int sum) {
            here[set] = Math.min(here[set], sum);
            for (int i = 0; i < waiting; i++) {
                if ((set >> i & 1) == 0 && holds[i] > 0) {
                    int begin = firstBegin(cell, needs[i], from);
                    if (begin != NONE) {
                        layOn(cell, set | 1 << i, begin + holds[i], sum + begin);
                    }
                }
            }
        }

        private int firstBegin(int cell, int need, int from) {
            for (int h = from; h <= HOURS_AHEAD; h++) {
                if (waysIn[h % TIDES][cell] >= need) {
                    return h;
                }
            }
            return NONE;
        }

        /** Sets are joined from the greatest down, so that sums of smaller ones are still without this berth. */
        private void joinSets(int set) {
            int least = sums[set];
            for (int part = 1; part <= set; part++) {
                if ((part & set) == part) {
                    least = Math.min(least, sums[set ^ part] + here[part]);
                }
            }
            sums[set] = least;
        }

        int leastSum() {
            int least = sums[(1 << waiting) - 1];
            return least >= NO_WAY ? NONE : least;
        }
    }
}
