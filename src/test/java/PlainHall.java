import java.util.ArrayList;
import java.util.Collections;
import java.util.List;
import java.util.NoSuchElementException;

/**
 * The document again, word by word and without a thought for speed: every order is tried,
 * nothing is kept that can be counted anew. PlainHallTest holds TapeHall against it.
 */
final class PlainHall {
    private static final int NONE = -1;

    private static final class Tape {
        int number, home, kind, places, head;
        long[] row;
        Arm arm;
        Reader reader;
    }

    private static final class Ask {
        int number, kind, a, b, tick, state, ended = NONE;
        long result;
        Tape tape;

        int from() {
            return kind == 3 ? 0 : a;
        }

        int to() {
            return kind == 3 ? tape.places - 1 : kind == 1 ? b : a;
        }
    }

    private static final class Reader {
        int number, slot, state, ticks, way;
        Tape tape;
        List<Ask> work = new ArrayList<>();
    }

    private static final class Arm {
        int number, place;
        Job job;
    }

    private static final class Job {
        Tape tape;
        boolean taken, home;
        Reader reader;

        int takes() {
            return home ? reader.slot : tape.home;
        }

        int puts() {
            return home ? tape.home : reader.slot;
        }
    }

    private final List<Tape> tapes = new ArrayList<>();
    private final List<Reader> readers = new ArrayList<>();
    private final List<Ask> asks = new ArrayList<>();
    private final List<int[]> items = new ArrayList<>();
    private final Arm[] arms = {new Arm(), new Arm()};
    private int tick, threshold, bound = 1000, ended, gone;

    PlainHall() {
        arms[0].place = -1;
        arms[1].number = 1;
        arms[1].place = 40;
    }

    int tape(int home, int kind, int n) {
        boolean taken = tapes.stream().anyMatch(t -> t.home == home);
        if (home < 0 || home > 39 || taken || kind < 0 || kind > 4 || n > 60 || n == 0 || tapes.size() == 12) {
            return NONE;
        }
        if (n < 0) {
            return -2;
        }
        Tape tape = new Tape();
        tape.number = tapes.size();
        tape.home = home;
        tape.kind = kind;
        tape.places = n;
        tape.row = new long[n];
        tapes.add(tape);
        return tape.number;
    }

    int reader(int slot) {
        if (slot < 0 || slot > 39 || readers.size() == 3 || readers.stream().anyMatch(r -> r.slot == slot)) {
            return NONE;
        }
        Reader reader = new Reader();
        reader.number = readers.size();
        reader.slot = slot;
        readers.add(reader);
        return reader.number;
    }

    boolean settings(int newThreshold, int newBound) {
        if (newThreshold < -1000 || newThreshold > 10000 || newBound < 0 || newBound > 10000) {
            return false;
        }
        threshold = newThreshold;
        bound = newBound;
        return true;
    }

    int ask(int kind, int t, int a, int b) {
        if (t < 0 || t >= tapes.size() || kind < 0 || kind > 4 || asks.size() == 150 || a < 0) {
            return NONE;
        }
        int n = tapes.get(t).places;
        if (kind != 3 && a >= n || kind == 1 && (b >= n || a > b)) {
            return NONE;
        }
        Ask ask = new Ask();
        ask.number = asks.size();
        ask.kind = kind;
        ask.tape = tapes.get(t);
        ask.a = a;
        ask.b = b;
        ask.tick = tick;
        asks.add(ask);
        return ask.number;
    }

    int tick(int n) {
        if (n < 1 || n > 400) {
            return NONE;
        }
        ended = 0;
        for (int i = 0; i < n; i++) {
            stepA(arms[0], arms[1]);
            stepA(arms[1], arms[0]);
            readers.forEach(this::stepB);
            stepC(arms[0], arms[1]);
            stepC(arms[1], arms[0]);
            tick++;
        }
        return ended;
    }

    private void stepA(Arm arm, Arm other) {
        Job job = arm.job;
        if (job == null) {
            return;
        }
        int stop = job.taken ? job.puts() : job.takes();
        if (arm.place == stop) {
            if (job.taken) {
                put(arm, job);
            } else {
                job.taken = true;
                job.tape.arm = arm;
                job.tape.reader = null;
                if (job.home) {
                    job.reader.tape = null;
                    job.reader.state = job.reader.state == 3 ? 0 : job.reader.state;
                }
            }
            return;
        }
        int step = Integer.signum(stop - arm.place);
        if (other.place == arm.place + step) {
            if (other.job != null) {
                throw new IllegalStateException("the arms meet");
            }
            other.place += step;
            gone++;
        }
        arm.place += step;
        gone++;
        if (arms[0].place >= arms[1].place || arms[0].place < -1 || arms[1].place > 40) {
            throw new IllegalStateException("off the rail");
        }
    }

    private void put(Arm arm, Job job) {
        arm.job = null;
        job.tape.arm = null;
        if (!job.home) {
            job.tape.reader = job.reader;
            job.reader.state = 2;
            job.reader.tape = job.tape;
            job.reader.way = 0;
            job.reader.ticks = 0;
            job.reader.work = bestOrder(job.tape);
            job.reader.work.forEach(ask -> ask.state = 1);
        }
    }

    private void stepB(Reader reader) {
        if (reader.state != 2) {
            return;
        }
        if (!reader.work.isEmpty()) {
            Ask ask = reader.work.get(0);
            Tape tape = reader.tape;
            int[] behind = run(tape.head, reader.way, ask);
            if (++reader.ticks == behind[0]) {
                end(ask, tape);
                tape.head = behind[1];
                reader.way = behind[2];
                reader.ticks = 0;
                reader.work.remove(0);
            }
        }
        if (reader.work.isEmpty()) {
            reader.state = 3;
        }
    }

    private void end(Ask ask, Tape tape) {
        ended++;
        ask.ended = tick;
        ask.state = tape.kind == 4 ? 3 : 2;
        if (tape.kind == 4) {
            return;
        }
        for (int i = ask.from(); i <= ask.to(); i++) {
            ask.result += tape.row[i];
        }
        if (ask.kind == 2) {
            long[] cut = {(byte) ask.b, (short) ask.b, ask.b, ask.b};
            tape.row[ask.a] = cut[tape.kind];
        }
    }

    /** Cost, head and way behind an ask: each place wound to and each turn is told singly. */
    private static int[] run(int head, int way, Ask ask) {
        int cost = 0;
        while (head != ask.from()) {
            int step = head < ask.from() ? 1 : -1;
            cost += way == -step ? 3 : 1;
            way = step;
            head += step;
        }
        if (ask.to() > ask.from()) {
            cost += way == -1 ? 2 : 0;
            way = 1;
        }
        for (int i = ask.from(); i <= ask.to(); i++) {
            cost++;
        }
        return new int[] {cost, ask.to(), way};
    }

    private void stepC(Arm arm, Arm other) {
        if (arm.job != null) {
            return;
        }
        for (Reader reader : readers) {
            if ((reader.state == 3 || reader.state == 4) && reader.tape != null && !inJob(reader.tape)) {
                if (start(arm, other, reader.tape, reader, true)) {
                    return;
                }
            }
        }
        for (Reader reader : readers) {
            if (reader.state == 0) {
                Tape tape = chosen(reader);
                if (tape != null && start(arm, other, tape, reader, false)) {
                    reader.state = 1;
                    reader.tape = tape;
                }
                return;
            }
        }
    }

    private boolean inJob(Tape tape) {
        return arms[0].job != null && arms[0].job.tape == tape || arms[1].job != null && arms[1].job.tape == tape;
    }

    private static List<Integer> span(Arm arm, Job job) {
        List<Integer> places = new ArrayList<>(List.of(arm.place, job.puts()));
        if (!job.taken) {
            places.add(job.takes());
        }
        return places;
    }

    private static boolean start(Arm arm, Arm other, Tape tape, Reader reader, boolean home) {
        Job job = new Job();
        job.tape = tape;
        job.reader = reader;
        job.home = home;
        if (other.job != null) {
            List<Integer> mine = span(arm, job);
            List<Integer> its = span(other, other.job);
            boolean clear = arm.number == 0 ? Collections.max(mine) < Collections.min(its)
                    : Collections.min(mine) > Collections.max(its);
            if (!clear) {
                return false;
            }
        }
        arm.job = job;
        return true;
    }

    private boolean free(Tape tape) {
        return tape.reader == null && tape.arm == null && !inJob(tape);
    }

    private int worth(Tape tape, int slot) {
        int worth = -2 * Math.abs(tape.home - slot);
        for (Ask ask : asks) {
            if (ask.tape == tape && ask.state == 0 && ask.kind != 3) {
                worth += tick - ask.tick + (ask.kind == 4 ? 100 : 10);
            }
        }
        return worth;
    }

    private Tape chosen(Reader reader) {
        for (Ask ask : asks) {
            if (free(ask.tape) && ask.state == 0 && ask.kind != 3 && tick - ask.tick >= bound) {
                return ask.tape;
            }
        }
        Tape best = null;
        for (Tape tape : tapes) {
            boolean called = asks.stream().anyMatch(a -> a.tape == tape && a.state == 0 && a.kind != 3);
            if (free(tape) && called && (best == null || worth(tape, reader.slot) > worth(best, reader.slot))) {
                best = tape;
            }
        }
        if (best != null && worth(best, reader.slot) >= threshold) {
            return best;
        }
        Ask scrub = null;
        for (Ask ask : asks) {
            if (free(ask.tape) && ask.state == 0 && ask.kind == 3 && (scrub == null || ask.a < scrub.a)) {
                scrub = ask;
            }
        }
        boolean others = asks.stream().anyMatch(a -> a.state == 0 && a.kind != 3);
        return scrub != null && (!others || scrub.a <= tick + 100) ? scrub.tape : null;
    }

    private List<Ask> firstWaiting(Tape tape) {
        List<Ask> waiting = new ArrayList<>();
        for (Ask ask : asks) {
            if (ask.tape == tape && ask.state == 0 && waiting.size() < 8) {
                waiting.add(ask);
            }
        }
        return waiting;
    }

    private List<Ask> best;
    private int least, leastWaits;

    /** All orders, the lesser numbers first: only a lesser cost takes the place of the best one. */
    private void tryAll(List<Ask> done, List<Ask> left, int head, int way, int cost, int waits) {
        if (left.isEmpty()) {
            leastWaits = Math.min(leastWaits, waits);
            if (cost < least) {
                least = cost;
                best = new ArrayList<>(done);
            }
        }
        for (int i = 0; i < left.size(); i++) {
            Ask ask = left.remove(i);
            int[] behind = run(head, way, ask);
            done.add(ask);
            tryAll(done, left, behind[1], behind[2], cost + behind[0], waits + cost + behind[0]);
            done.remove(done.size() - 1);
            left.add(i, ask);
        }
    }

    private List<Ask> bestOrder(Tape tape) {
        best = new ArrayList<>();
        least = Integer.MAX_VALUE;
        leastWaits = Integer.MAX_VALUE;
        tryAll(new ArrayList<>(), firstWaiting(tape), tape.head, 0, 0, 0);
        return best;
    }

    int arm(int k, int what) {
        if (k < 0 || k > 1 || what < 0 || what > 3) {
            return NONE;
        }
        Job job = arms[k].job;
        int state = job == null ? 0 : job.taken ? 2 : 1;
        return new int[] {arms[k].place, state, job == null ? NONE : job.tape.number,
            job == null ? NONE : job.puts()}[what];
    }

    int rig(int k, int what) {
        if (k < 0 || k >= readers.size() || what < 0 || what > 4) {
            return NONE;
        }
        Reader reader = readers.get(k);
        return new int[] {reader.slot, reader.state, reader.tape == null ? NONE : reader.tape.number,
            reader.work.size(), reader.ticks}[what];
    }

    int tapeOf(int t, int what) {
        if (t < 0 || t >= tapes.size() || what < 0 || what > 6) {
            return NONE;
        }
        Tape tape = tapes.get(t);
        int where = tape.arm != null ? 1 : tape.reader != null ? 2 : 0;
        int waiting = (int) asks.stream().filter(a -> a.tape == tape && a.state == 0).count();
        return new int[] {tape.home, tape.kind, tape.places, tape.head, where, waiting, worth(tape, 0)}[what];
    }

    long cell(int t, int i) {
        if (t < 0 || t >= tapes.size() || i < 0 || i >= tapes.get(t).places || tapes.get(t).kind == 4) {
            throw new NoSuchElementException();
        }
        return tapes.get(t).row[i];
    }

    long askOf(int k, int what) {
        if (k < 0 || k >= asks.size() || what < 0 || what > 7) {
            return NONE;
        }
        Ask ask = asks.get(k);
        return new long[] {ask.kind, ask.tape.number, ask.state, ask.tick, ask.ended, ask.result, ask.a, ask.b}[what];
    }

    int order(int t, int i) {
        if (t < 0 || t >= tapes.size()) {
            return NONE;
        }
        List<Ask> order = bestOrder(tapes.get(t));
        return i < 0 || i >= order.size() ? NONE : order.get(i).number;
    }

    int told(int t, int what) {
        if (t < 0 || t >= tapes.size() || what < 0 || what > 2) {
            return NONE;
        }
        int head = tapes.get(t).head;
        int way = 0;
        int cost = 0;
        int waits = 0;
        for (Ask ask : bestOrder(tapes.get(t))) {
            int[] behind = run(head, way, ask);
            cost += behind[0];
            waits += cost;
            head = behind[1];
            way = behind[2];
        }
        return new int[] {cost, waits, leastWaits}[what];
    }

    boolean breaks(int k) {
        if (k < 0 || k >= readers.size() || readers.get(k).state == 1 || readers.get(k).state == 4) {
            return false;
        }
        Reader reader = readers.get(k);
        reader.work.forEach(ask -> ask.state = 0);
        reader.work.clear();
        reader.ticks = 0;
        reader.state = 4;
        return true;
    }

    boolean mends(int k) {
        if (k < 0 || k >= readers.size() || readers.get(k).state != 4) {
            return false;
        }
        readers.get(k).state = readers.get(k).tape == null ? 0 : 3;
        return true;
    }

    int copy(int from, int at, int to, int where, int n) {
        if (from < 0 || from >= tapes.size() || to < 0 || to >= tapes.size()) {
            return NONE;
        }
        Tape one = tapes.get(from);
        Tape other = tapes.get(to);
        if (!free(one) || !free(other)) {
            return NONE;
        }
        if (one.kind == 4 || other.kind == 4) {
            return -2;
        }
        if (one.kind != other.kind) {
            return -3;
        }
        if (n < 0 || at < 0 || where < 0 || (long) at + n > one.places || (long) where + n > other.places) {
            return -4;
        }
        long[] read = one.row.clone();
        for (int i = 0; i < n; i++) {
            other.row[where + i] = read[at + i];
        }
        return n;
    }

    int item(int size, int count) {
        if (size < 1 || size > 50 || count < 0 || count > 1000 || items.size() == 8) {
            return NONE;
        }
        items.add(new int[] {size, count});
        laid = null;
        return items.size() - 1;
    }

    private int[] laid;
    private long winding;

    private void tryLaying(List<Integer> done, List<Integer> left) {
        if (left.isEmpty()) {
            int[] begins = new int[items.size()];
            int end = 0;
            for (int i : done) {
                begins[i] = end;
                end += items.get(i)[0];
            }
            long sum = 0;
            for (int i = 0; i < begins.length; i++) {
                for (int k = 0; k < i; k++) {
                    sum += (long) items.get(i)[1] * items.get(k)[1] * Math.abs(begins[i] - begins[k]);
                }
            }
            if (laid == null || sum < winding) {
                laid = begins;
                winding = sum;
            }
        }
        for (int i = 0; i < left.size(); i++) {
            Integer item = left.remove(i);
            done.add(item);
            tryLaying(done, left);
            done.remove(done.size() - 1);
            left.add(i, item);
        }
    }

    private void lay() {
        if (laid == null) {
            List<Integer> all = new ArrayList<>();
            for (int i = 0; i < items.size(); i++) {
                all.add(i);
            }
            tryLaying(new ArrayList<>(), all);
        }
    }

    long laid() {
        lay();
        return winding;
    }

    int begins(int i) {
        lay();
        return i < 0 || i >= items.size() ? NONE : laid[i];
    }

    int clear() {
        int had = items.size();
        items.clear();
        laid = null;
        return had;
    }

    int count(int what) {
        int[] states = new int[4];
        int sum = 0;
        int most = 0;
        for (Ask ask : asks) {
            states[ask.state]++;
            if (ask.ended != NONE) {
                sum += ask.ended - ask.tick;
                most = Math.max(most, ask.ended - ask.tick);
            }
        }
        int[] all = {tapes.size(), readers.size(), asks.size(), tick, states[0], states[1], states[2], states[3],
            sum, most, items.size(), gone};
        return what < 0 || what >= all.length ? NONE : all[what];
    }
}
