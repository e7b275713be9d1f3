import java.util.NoSuchElementException;

/**
 * A hall of tapes: asks wait, two arms on one rail bring tapes to readers and home again,
 * readers work the asks off in the order of least ticks. It keeps to the numbered promises
 * of its document.
 *
 * <p>Objects name one another by number and look each other up where they need it, so that
 * every use of one stands behind its own test.
 */
public final class TapeHall {
    public static final int NONE = -1;

    private static final int BELOW_ZERO = -2;
    private static final int ROW_MISSING = -2;
    private static final int UNLIKE_KINDS = -3;
    private static final int BEYOND_ROW = -4;

    private static final int SLOTS = 40;
    private static final int LEFT_END = -1;
    private static final int RIGHT_END = 40;
    private static final int MOST_TAPES = 12;
    private static final int MOST_PLACES = 60;
    private static final int MOST_READERS = 3;
    private static final int MOST_ASKS = 150;
    private static final int MOST_TICKS = 400;
    private static final int MOST_ORDERED = 8;
    private static final int MOST_ITEMS = 8;
    private static final int MOST_SIZE = 50;
    private static final int MOST_COUNT = 1000;
    private static final int LEAST_THRESHOLD = -1000;
    private static final int MOST_THRESHOLD = 10000;
    private static final int MOST_BOUND = 10000;

    private static final int BYTES = 0;
    private static final int SHORTS = 1;
    private static final int MISSING = 4;

    private static final int READ = 0;
    private static final int SPAN = 1;
    private static final int WRITE = 2;
    private static final int SCRUB = 3;
    private static final int URGENT = 4;

    private static final int WAITS = 0;
    private static final int AT_WORK = 1;
    private static final int DONE = 2;
    private static final int FAILED = 3;

    private static final int AT_HOME = 0;
    private static final int WITH_ARM = 1;
    private static final int IN_READER = 2;

    private static final int EMPTY = 0;
    private static final int COMING = 1;
    private static final int BUSY = 2;
    private static final int OVER = 3;
    private static final int BROKEN = 4;

    private static final int TURN_COST = 2;
    private static final int URGENT_WORTH = 100;
    private static final int PLAIN_WORTH = 10;
    private static final int SCRUB_AHEAD = 100;

    private final Tape[] tapes = new Tape[MOST_TAPES];
    private final Reader[] readers = new Reader[MOST_READERS];
    private final Ask[] asks = new Ask[MOST_ASKS];
    private final Arm left = new Arm(LEFT_END, true);
    private final Arm right = new Arm(RIGHT_END, false);
    private final Plan plan = new Plan();
    private final Shelf shelf = new Shelf();
    private int tapeCount;
    private int readerCount;
    private int askCount;
    private int now;
    private int threshold = 0;
    private int bound = 1000;
    /** The tape whose ORDER stands in the plan: it is costly, and often asked for again. */
    private int planned = NONE;
    private int callsWaiting;
    private int scrubsWaiting;
    private int ageSum;
    private int ageMost;

    public TapeHall() {
    }

    public int tape(int home, int kind, int n) {
        int number = tapeCount;
        if (!within(home, SLOTS) || kind < BYTES || kind > MISSING || n == 0 || n > MOST_PLACES
                || isHome(home) || !within(number, tapes.length)) {
            return NONE;
        }
        if (n < 0) {
            return BELOW_ZERO;
        }
        tapes[number] = new Tape(home, kind, n, kind == MISSING ? null : new long[n]);
        tapeCount++;
        return number;
    }

    public int reader(int slot) {
        int number = readerCount;
        if (!within(slot, SLOTS) || isReaderSlot(slot) || !within(number, readers.length)) {
            return NONE;
        }
        readers[number] = new Reader(slot);
        readerCount++;
        return number;
    }

    public boolean settings(int threshold, int bound) {
        if (threshold < LEAST_THRESHOLD || threshold > MOST_THRESHOLD || bound < 0 || bound > MOST_BOUND) {
            return false;
        }
        this.threshold = threshold;
        this.bound = bound;
        return true;
    }

    public int ask(int kind, int tape, int a, int b) {
        Tape of = tapeAt(tape);
        int number = askCount;
        if (of == null || !isAsk(kind, of.places, a, b) || !within(number, asks.length)) {
            return NONE;
        }
        Ask ask = new Ask(kind, tape, a, b, now);
        ask.reachOver(of.places);
        asks[number] = ask;
        askCount++;
        changeWaiting(ask, 1);
        return number;
    }

    public int tick(int n) {
        if (n < 1 || n > MOST_TICKS) {
            return NONE;
        }
        int ended = 0;
        for (int i = 0; i < n; i++) {
            moveArm(left, right);
            moveArm(right, left);
            for (int r = 0; r < readers.length; r++) {
                ended += workIn(readers[r]);
            }
            findJob(left, right);
            findJob(right, left);
            now++;
        }
        return ended;
    }

    public int arm(int k, int what) {
        if (k != 0 && k != 1) {
            return NONE;
        }
        Arm arm = k == 0 ? left : right;
        switch (what) {
            case 0:
                return arm.place;
            case 1:
                return !arm.hasJob() ? 0 : !arm.holds ? 1 : 2;
            case 2:
                return arm.tape;
            case 3:
                return arm.hasJob() ? arm.putsAt : NONE;
            default:
                return NONE;
        }
    }

    public int rig(int k, int what) {
        Reader reader = readerAt(k);
        if (reader == null) {
            return NONE;
        }
        switch (what) {
            case 0:
                return reader.slot;
            case 1:
                return reader.state;
            case 2:
                return reader.tape;
            case 3:
                return reader.workLeft();
            case 4:
                return reader.ticks;
            default:
                return NONE;
        }
    }

    public int tapeOf(int t, int what) {
        Tape tape = tapeAt(t);
        if (tape == null) {
            return NONE;
        }
        switch (what) {
            case 0:
                return tape.home;
            case 1:
                return tape.kind;
            case 2:
                return tape.places;
            case 3:
                return tape.head;
            case 4:
                return tape.where;
            case 5:
                return waitingOf(t);
            case 6:
                return tape.worth(now, 0);
            default:
                return NONE;
        }
    }

    public long cell(int t, int i) throws NoSuchElementException {
        Tape tape = tapeAt(t);
        if (tape == null || !tape.hasNumber(i)) {
            throw new NoSuchElementException("no such tape, place or row");
        }
        return tape.number(i);
    }

    public long askOf(int k, int what) {
        Ask ask = askAt(k);
        if (ask == null) {
            return NONE;
        }
        switch (what) {
            case 0:
                return ask.kind;
            case 1:
                return ask.tape;
            case 2:
                return ask.state;
            case 3:
                return ask.madeAt;
            case 4:
                return ask.endedAt;
            case 5:
                return ask.result;
            case 6:
                return ask.a;
            case 7:
                return ask.b;
            default:
                return NONE;
        }
    }

    public int order(int t, int i) {
        return makePlan(t) && within(i, plan.size) ? at(plan.sequence, i) : NONE;
    }

    public int told(int t, int what) {
        if (what < 0 || what > 2 || !makePlan(t)) {
            return NONE;
        }
        return what == 0 ? plan.cost : what == 1 ? plan.waits : plan.leastWaits();
    }

    public boolean breaks(int k) {
        Reader reader = readerAt(k);
        if (reader == null || reader.state == COMING || reader.state == BROKEN) {
            return false;
        }
        for (int i = reader.next; i < reader.size; i++) {
            Ask ask = askAt(at(reader.work, i));
            if (ask != null) {
                ask.state = WAITS;
                changeWaiting(ask, 1);
            }
        }
        reader.dropWork();
        reader.state = BROKEN;
        return true;
    }

    public boolean mends(int k) {
        Reader reader = readerAt(k);
        if (reader == null || reader.state != BROKEN) {
            return false;
        }
        reader.state = reader.tape == NONE ? EMPTY : OVER;
        return true;
    }

    public int copy(int from, int at, int to, int where, int n) {
        Tape source = tapeAt(from);
        Tape target = tapeAt(to);
        if (source == null || target == null || !source.isFree() || !target.isFree()) {
            return NONE;
        }
        if (source.row == null || target.row == null) {
            return ROW_MISSING;
        }
        if (source.kind != target.kind) {
            return UNLIKE_KINDS;
        }
        // Taken from the length, n can't overflow as at + n would.
        if (n < 0 || at < 0 || where < 0
                || at > source.row.length - n || where > target.row.length - n) {
            return BEYOND_ROW;
        }
        System.arraycopy(source.row, at, target.row, where, n);
        return n;
    }

    public int item(int size, int count) {
        if (size < 1 || size > MOST_SIZE || count < 0 || count > MOST_COUNT || shelf.isFull()) {
            return NONE;
        }
        return shelf.add(size, count);
    }

    public long laid() {
        shelf.lay();
        return shelf.winding;
    }

    public int begins(int i) {
        if (!within(i, shelf.size)) {
            return NONE;
        }
        shelf.lay();
        return at(shelf.starts, i);
    }

    public int clear() {
        int had = shelf.size;
        shelf.empty();
        return had;
    }

    public int count(int what) {
        switch (what) {
            case 0:
                return tapeCount;
            case 1:
                return readerCount;
            case 2:
                return askCount;
            case 3:
                return now;
            case 4:
                return asksThatAre(WAITS);
            case 5:
                return asksThatAre(AT_WORK);
            case 6:
                return asksThatAre(DONE);
            case 7:
                return asksThatAre(FAILED);
            case 8:
                return ageSum;
            case 9:
                return ageMost;
            case 10:
                return shelf.size;
            case 11:
                return left.gone + right.gone;
            default:
                return NONE;
        }
    }

    private static boolean within(int i, int length) {
        return i >= 0 && i < length;
    }

    private static int at(int[] row, int i) {
        return row != null && i >= 0 && i < row.length ? row[i] : 0;
    }

    private static long at(long[] row, int i) {
        return row != null && i >= 0 && i < row.length ? row[i] : 0;
    }

    private static void put(int[] row, int i, int number) {
        if (row != null && i >= 0 && i < row.length) {
            row[i] = number;
        }
    }

    private Tape tapeAt(int t) {
        return t >= 0 && t < tapes.length ? tapes[t] : null;
    }

    private Reader readerAt(int k) {
        return k >= 0 && k < readers.length ? readers[k] : null;
    }

    private Ask askAt(int k) {
        return k >= 0 && k < asks.length ? asks[k] : null;
    }

    private boolean isHome(int slot) {
        for (int t = 0; t < tapes.length; t++) {
            Tape tape = tapes[t];
            if (tape != null && tape.home == slot) {
                return true;
            }
        }
        return false;
    }

    private boolean isReaderSlot(int slot) {
        for (int r = 0; r < readers.length; r++) {
            Reader reader = readers[r];
            if (reader != null && reader.slot == slot) {
                return true;
            }
        }
        return false;
    }

    private static boolean isAsk(int kind, int places, int a, int b) {
        switch (kind) {
            case READ:
            case WRITE:
            case URGENT:
                return within(a, places);
            case SPAN:
                return a <= b && within(a, places) && within(b, places);
            case SCRUB:
                return a >= 0;
            default:
                return false;
        }
    }

    private int asksThatAre(int state) {
        int many = 0;
        for (int k = 0; k < asks.length; k++) {
            Ask ask = asks[k];
            if (ask != null && ask.state == state) {
                many++;
            }
        }
        return many;
    }

    private int waitingOf(int t) {
        int many = 0;
        for (int k = 0; k < asks.length; k++) {
            Ask ask = asks[k];
            if (ask != null && ask.tape == t && ask.state == WAITS) {
                many++;
            }
        }
        return many;
    }

    /** Keeps the sums of the waiting asks, as one begins (by 1) or ends (by -1) to wait. */
    private void changeWaiting(Ask ask, int by) {
        planned = NONE;
        if (ask.isScrub()) {
            scrubsWaiting += by;
            return;
        }
        callsWaiting += by;
        Tape tape = tapeAt(ask.tape);
        if (tape != null) {
            tape.calls += by;
            tape.credit += by * (ask.worthAtOnce() - ask.madeAt);
        }
    }

    /** The way in which a head comes to the place from. */
    private static int wayTo(int head, int way, int from) {
        return from > head ? 1 : from < head ? -1 : way;
    }

    private static int wayBehind(int head, int way, int from, int to) {
        return to > from ? 1 : wayTo(head, way, from);
    }

    private static int costOf(int head, int way, int from, int to) {
        int there = wayTo(head, way, from);
        int turnThere = way * there < 0 ? TURN_COST : 0;
        int turnBehind = there < 0 && to > from ? TURN_COST : 0;
        return turnThere + Math.abs(from - head) + turnBehind + (to - from + 1);
    }

    /** Lays the ORDER of a tape into the plan; false if there is no such tape. */
    private boolean makePlan(int t) {
        Tape tape = tapeAt(t);
        if (tape == null) {
            return false;
        }
        if (planned == t) {
            return true;
        }
        plan.start(tape.head);
        for (int k = 0; k < asks.length && !plan.isFull(); k++) {
            Ask ask = asks[k];
            if (ask != null && ask.tape == t && ask.state == WAITS) {
                plan.add(k, ask.from, ask.to);
            }
        }
        plan.tabulate();
        plan.solve(false);
        plan.choose();
        planned = t;
        return true;
    }

    /** Step a of a tick for one arm. */
    private void moveArm(Arm arm, Arm other) {
        if (!arm.hasJob()) {
            return;
        }
        int stop = arm.nextStop();
        if (arm.place != stop) {
            int way = stop > arm.place ? 1 : -1;
            if (!other.hasJob() && other.place == arm.place + way) {
                other.go(way);
            }
            arm.go(way);
            return;
        }
        Tape tape = tapeAt(arm.tape);
        Reader reader = readerAt(arm.reader);
        if (tape == null || reader == null) {
            arm.endJob();
        } else if (!arm.holds) {
            take(arm, tape, reader);
        } else {
            tape.hasJob = false;
            if (arm.isHomeward) {
                tape.where = AT_HOME;
            } else if (makePlan(arm.tape)) {
                startWork(tape, reader);
            }
            arm.endJob();
        }
    }

    private static void take(Arm arm, Tape tape, Reader reader) {
        arm.holds = true;
        tape.where = WITH_ARM;
        if (arm.isHomeward) {
            reader.tape = NONE;
            if (reader.state == OVER) {
                reader.state = EMPTY;
            }
        }
    }

    /** A reader begins with the asks of the plan. */
    private void startWork(Tape tape, Reader reader) {
        tape.where = IN_READER;
        reader.state = BUSY;
        reader.dropWork();
        for (int i = 0; i < plan.size; i++) {
            int k = at(plan.sequence, i);
            Ask ask = askAt(k);
            if (ask != null) {
                ask.state = AT_WORK;
                changeWaiting(ask, -1);
                reader.addWork(k);
            }
        }
    }

    /** Step b of a tick for one reader: how many asks ended in it, 0 or 1. */
    private int workIn(Reader reader) {
        if (reader == null || reader.state != BUSY) {
            return 0;
        }
        Tape tape = tapeAt(reader.tape);
        Ask ask = reader.workLeft() > 0 ? askAt(at(reader.work, reader.next)) : null;
        if (tape == null || ask == null) {
            reader.state = OVER;
            return 0;
        }
        reader.ticks++;
        if (reader.ticks < costOf(tape.head, reader.way, ask.from, ask.to)) {
            return 0;
        }
        endAsk(ask, tape);
        reader.endFirst(wayBehind(tape.head, reader.way, ask.from, ask.to));
        tape.head = ask.to;
        planned = NONE;
        if (reader.workLeft() == 0) {
            reader.state = OVER;
        }
        return 1;
    }

    private void endAsk(Ask ask, Tape tape) {
        ask.state = tape.row == null ? FAILED : DONE;
        ask.endedAt = now;
        if (ask.kind == WRITE) {
            ask.result = tape.number(ask.a);
            tape.write(ask.a, ask.b);
        } else {
            ask.result = tape.sum(ask.from, ask.to);
        }
        int age = now - ask.madeAt;
        ageSum += age;
        ageMost = Math.max(ageMost, age);
    }

    /** Step c of a tick for one arm. */
    private void findJob(Arm arm, Arm other) {
        if (!arm.hasJob() && !clearReader(arm, other)) {
            bringChosen(arm, other);
        }
    }

    private boolean clearReader(Arm arm, Arm other) {
        for (int r = 0; r < readers.length; r++) {
            Reader reader = readers[r];
            if (reader == null || reader.state != OVER && reader.state != BROKEN) {
                continue;
            }
            Tape tape = tapeAt(reader.tape);
            if (tape != null && !tape.hasJob && may(arm, other, reader.slot, tape.home)) {
                tape.hasJob = true;
                arm.startJob(reader.tape, r, reader.slot, tape.home, true);
                return true;
            }
        }
        return false;
    }

    private void bringChosen(Arm arm, Arm other) {
        int r = firstEmpty();
        Reader reader = readerAt(r);
        if (reader == null) {
            return;
        }
        int t = chosenFor(reader.slot);
        Tape tape = tapeAt(t);
        if (tape != null && may(arm, other, tape.home, reader.slot)) {
            tape.hasJob = true;
            arm.startJob(t, r, tape.home, reader.slot, false);
            reader.state = COMING;
            reader.tape = t;
        }
    }

    /** Whether an arm stays clear of the other one's job in a job of its own. */
    private static boolean may(Arm arm, Arm other, int takesAt, int putsAt) {
        if (!other.hasJob()) {
            return true;
        }
        int least = Math.min(arm.place, Math.min(takesAt, putsAt));
        int greatest = Math.max(arm.place, Math.max(takesAt, putsAt));
        return arm.isLeft ? greatest < other.least() : least > other.greatest();
    }

    private int firstEmpty() {
        for (int r = 0; r < readers.length; r++) {
            Reader reader = readers[r];
            if (reader != null && reader.state == EMPTY) {
                return r;
            }
        }
        return NONE;
    }

    private int chosenFor(int slot) {
        int t = NONE;
        if (callsWaiting > 0) {
            t = overdueTape();
            if (t == NONE) {
                t = worthiestTape(slot);
            }
        }
        return t == NONE && scrubsWaiting > 0 ? scrubTape() : t;
    }

    private boolean isFree(int t) {
        Tape tape = tapeAt(t);
        return tape != null && tape.isFree();
    }

    private int overdueTape() {
        for (int k = 0; k < asks.length; k++) {
            Ask ask = asks[k];
            // No later ask is older than this one.
            if (ask == null || now - ask.madeAt < bound) {
                return NONE;
            }
            if (ask.state == WAITS && !ask.isScrub() && isFree(ask.tape)) {
                return ask.tape;
            }
        }
        return NONE;
    }

    private int worthiestTape(int slot) {
        int best = NONE;
        int most = threshold - 1;
        for (int t = 0; t < tapes.length; t++) {
            Tape tape = tapes[t];
            if (tape == null || !tape.isFree() || tape.calls == 0) {
                continue;
            }
            int worth = tape.worth(now, slot);
            if (worth > most) {
                best = t;
                most = worth;
            }
        }
        return best;
    }

    private int scrubTape() {
        Ask first = null;
        for (int k = 0; k < asks.length; k++) {
            Ask ask = asks[k];
            if (ask != null && ask.state == WAITS && ask.isScrub() && isFree(ask.tape)
                    && (first == null || ask.a < first.a)) {
                first = ask;
            }
        }
        if (first == null) {
            return NONE;
        }
        return callsWaiting == 0 || first.a <= now + SCRUB_AHEAD ? first.tape : NONE;
    }

    private static final class Tape {
        final int home;
        final int kind;
        final int places;
        /** Null: the row is missing. Longs hold the numbers of every kind, cut as they are written. */
        final long[] row;
        int head;
        int where = AT_HOME;
        boolean hasJob;
        /** Asks that wait, but for scrubs. */
        int calls;
        /** Of these: what they are worth less their ticks; with the tick at hand it gives the ages. */
        int credit;

        Tape(int home, int kind, int places, long[] row) {
            this.home = home;
            this.kind = kind;
            this.places = places;
            this.row = row;
        }

        boolean isFree() {
            return where == AT_HOME && !hasJob;
        }

        int worth(int tick, int slot) {
            return calls * tick + credit - 2 * Math.abs(home - slot);
        }

        boolean hasNumber(int i) {
            return row != null && i >= 0 && i < row.length;
        }

        long number(int i) {
            return at(row, i);
        }

        long sum(int from, int to) {
            long sum = 0;
            if (row != null) {
                for (int i = Math.max(from, 0); i <= to && i < row.length; i++) {
                    sum += row[i];
                }
            }
            return sum;
        }

        void write(int i, int number) {
            if (row != null && i >= 0 && i < row.length) {
                row[i] = kind == BYTES ? (byte) number : kind == SHORTS ? (short) number : number;
            }
        }
    }

    private static final class Ask {
        final int kind;
        final int tape;
        final int a;
        final int b;
        final int madeAt;
        int from;
        int to;
        int state = WAITS;
        int endedAt = NONE;
        long result;

        Ask(int kind, int tape, int a, int b, int madeAt) {
            this.kind = kind;
            this.tape = tape;
            this.a = a;
            this.b = b;
            this.madeAt = madeAt;
        }

        /** Sets FROM and TO, on a tape of so many places. */
        void reachOver(int places) {
            from = kind == SCRUB ? 0 : a;
            to = kind == SCRUB ? places - 1 : kind == SPAN ? b : a;
        }

        boolean isScrub() {
            return kind == SCRUB;
        }

        int worthAtOnce() {
            return kind == URGENT ? URGENT_WORTH : PLAIN_WORTH;
        }
    }

    private static final class Reader {
        final int slot;
        final int[] work = new int[MOST_ORDERED];
        int state = EMPTY;
        int tape = NONE;
        /** The asks at work are those of the row work from next to size. */
        int next;
        int size;
        int ticks;
        int way;

        Reader(int slot) {
            this.slot = slot;
        }

        int workLeft() {
            return size - next;
        }

        void addWork(int k) {
            put(work, size, k);
            size++;
        }

        void endFirst(int wayNow) {
            next++;
            ticks = 0;
            way = wayNow;
        }

        void dropWork() {
            next = 0;
            size = 0;
            ticks = 0;
            way = 0;
        }
    }

    /** An arm and its job: to take a tape at one place and to put it at another. */
    private static final class Arm {
        final boolean isLeft;
        int place;
        int gone;
        int tape = NONE;
        int reader = NONE;
        int takesAt;
        int putsAt;
        boolean isHomeward;
        boolean holds;

        Arm(int place, boolean isLeft) {
            this.place = place;
            this.isLeft = isLeft;
        }

        boolean hasJob() {
            return tape != NONE;
        }

        void startJob(int t, int r, int takes, int puts, boolean homeward) {
            tape = t;
            reader = r;
            takesAt = takes;
            putsAt = puts;
            isHomeward = homeward;
            holds = false;
        }

        void endJob() {
            tape = NONE;
        }

        int nextStop() {
            return holds ? putsAt : takesAt;
        }

        void go(int way) {
            place += way;
            gone++;
        }

        int least() {
            return Math.min(place, Math.min(nextStop(), putsAt));
        }

        int greatest() {
            return Math.max(place, Math.max(nextStop(), putsAt));
        }
    }

    /**
     * The ORDER of the asks of one tape. A state tells the ask that came last and the way
     * behind it; what is still to come depends on the state and on the set of asks behind
     * it alone, so each pair of these is looked at once.
     */
    private static final class Plan {
        private static final int WAYS = 3;
        private static final int STATES = MOST_ORDERED * WAYS;
        private static final int START = STATES;

        final int[] numbers = new int[MOST_ORDERED];
        final int[] from = new int[MOST_ORDERED];
        final int[] to = new int[MOST_ORDERED];
        /** For each state and next ask: its cost, and the state behind it. */
        final int[] costs = new int[(STATES + 1) * MOST_ORDERED];
        final int[] behind = new int[(STATES + 1) * MOST_ORDERED];
        final int[] states = new int[STATES];
        /** For each set of asks and state: the least that is still to come. */
        final int[] rest = new int[(1 << MOST_ORDERED) * STATES];
        final int[] sequence = new int[MOST_ORDERED];
        int head;
        int size;
        int stateCount;
        int cost;
        int waits;
        int leastWaits;

        void start(int tapeHead) {
            head = tapeHead;
            size = 0;
            stateCount = 0;
            leastWaits = NONE;
        }

        boolean isFull() {
            return size >= MOST_ORDERED;
        }

        void add(int number, int first, int last) {
            put(numbers, size, number);
            put(from, size, first);
            put(to, size, last);
            size++;
        }

        void tabulate() {
            fillState(START, head, 0);
            for (int last = 0; last < size; last++) {
                for (int way = -1; way <= 1; way++) {
                    if (canLeave(last, way)) {
                        int state = last * WAYS + way + 1;
                        put(states, stateCount, state);
                        stateCount++;
                        fillState(state, at(to, last), way);
                    }
                }
            }
        }

        /** Way -1 is left by an ask of one place alone, way 0 by one where the head has been from the start. */
        private boolean canLeave(int ask, int way) {
            return way == 1 || at(from, ask) == at(to, ask) && (way == -1 || at(from, ask) == head);
        }

        private void fillState(int state, int place, int way) {
            for (int next = 0; next < size; next++) {
                int spot = state * MOST_ORDERED + next;
                int wayThen = wayBehind(place, way, at(from, next), at(to, next));
                put(costs, spot, costOf(place, way, at(from, next), at(to, next)));
                put(behind, spot, next * WAYS + wayThen + 1);
            }
        }

        /** Fills rest with ticks, or with the sums of waits, where a tick counts for each ask that waits for it. */
        void solve(boolean forWaits) {
            for (int set = (1 << size) - 1; set > 0; set--) {
                for (int i = 0; i < stateCount; i++) {
                    int state = at(states, i);
                    if ((set >> state / WAYS & 1) != 0) {
                        put(rest, set * STATES + state, best(set, state, forWaits) / MOST_ORDERED);
                    }
                }
            }
        }

        /**
         * The least that is to come behind a set of asks, times eight, and the first ask
         * by which it comes: the least of these numbers is of the lesser ask where two are alike.
         */
        private int best(int set, int state, boolean forWaits) {
            int left = size - Integer.bitCount(set);
            int weight = forWaits ? left : 1;
            int best = left == 0 ? 0 : Integer.MAX_VALUE;
            for (int next = 0; next < size; next++) {
                int bit = 1 << next;
                if ((set & bit) == 0) {
                    int spot = state * MOST_ORDERED + next;
                    int sum = weight * at(costs, spot) + at(rest, (set | bit) * STATES + at(behind, spot));
                    best = Math.min(best, sum * MOST_ORDERED + next);
                }
            }
            return best;
        }

        void choose() {
            int set = 0;
            int state = START;
            cost = 0;
            waits = 0;
            for (int i = 0; i < size; i++) {
                int next = best(set, state, false) % MOST_ORDERED;
                int spot = state * MOST_ORDERED + next;
                put(sequence, i, at(numbers, next));
                cost += at(costs, spot);
                waits += cost;
                set |= 1 << next;
                state = at(behind, spot);
            }
        }

        /** Sought only when it is asked for; the ORDER has left the rows by then. */
        int leastWaits() {
            if (leastWaits == NONE) {
                solve(true);
                leastWaits = best(0, START, true) / MOST_ORDERED;
            }
            return leastWaits;
        }
    }

    /**
     * The items and how they are laid. The size of an item parts those up to it from those
     * behind it, so it costs size times the one sum of counts times the other: what is still
     * to come depends on the set of items laid alone.
     */
    private static final class Shelf {
        final int[] sizes = new int[MOST_ITEMS];
        final int[] counts = new int[MOST_ITEMS];
        final int[] starts = new int[MOST_ITEMS];
        final long[] rest = new long[1 << MOST_ITEMS];
        int size;
        int total;
        long winding;
        boolean isLaid = true;

        boolean isFull() {
            return size >= MOST_ITEMS;
        }

        int add(int itemSize, int count) {
            put(sizes, size, itemSize);
            put(counts, size, count);
            total += count;
            isLaid = false;
            return size++;
        }

        void empty() {
            size = 0;
            total = 0;
            winding = 0;
            isLaid = true;
        }

        void lay() {
            if (isLaid) {
                return;
            }
            for (int set = Math.min(1 << size, rest.length) - 1; set >= 0; set--) {
                rest[set] = best(set) / MOST_ITEMS;
            }
            winding = at(rest, 0);
            int set = 0;
            int start = 0;
            for (int i = 0; i < size; i++) {
                int next = (int) (best(set) % MOST_ITEMS);
                put(starts, next, start);
                start += at(sizes, next);
                set |= 1 << next;
            }
            isLaid = true;
        }

        /** As the like one of a plan: the least winding to come, times eight, and the item laid next for it. */
        private long best(int set) {
            int laid = countsOf(set);
            long best = Long.MAX_VALUE;
            for (int next = 0; next < size; next++) {
                int bit = 1 << next;
                if ((set & bit) == 0) {
                    long upTo = laid + at(counts, next);
                    long sum = at(sizes, next) * upTo * (total - upTo) + at(rest, set | bit);
                    best = Math.min(best, sum * MOST_ITEMS + next);
                }
            }
            return best == Long.MAX_VALUE ? 0 : best;
        }

        private int countsOf(int set) {
            int sum = 0;
            for (int i = 0; i < size; i++) {
                if ((set >> i & 1) != 0) {
                    sum += at(counts, i);
                }
            }
            return sum;
        }
    }
}
