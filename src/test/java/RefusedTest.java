import java.util.ArrayList;
import java.util.Arrays;
import java.util.List;
import java.util.NoSuchElementException;

/**
 * Part 3: "A refused call changes nothing." Of two halls made alike one gets a refused call, the other one
 * does not; whatever can be asked of them is the same, at once and after ticks and calls that are taken.
 */
final class RefusedTest {
    private static final int THROWN = -77;
    private static final int FALSE = 0;

    interface Call {
        long on(TapeHall hall);
    }

    record Refused(String name, long due, Call call) {
    }

    private final String scene;
    private final Looks.Making making;
    private final long[][] due = new long[3][];

    private RefusedTest(String scene, Looks.Making making) {
        this.scene = scene;
        this.making = making;
        for (int later = 0; later < due.length; later++) {
            due[later] = looks(later, null);
        }
    }

    public static void main(String[] args) {
        scenesAreAsMeant();
        ofANewHall();
        ofAFullHall();
        ofAHallAtWork();
        ofABrokenHall();
        ofAFetchedTape();
        Due.close();
    }

    private static void ofANewHall() {
        RefusedTest test = new RefusedTest("new", TapeHall::new);
        test.hold(everywhere(-2));
        test.hold(new Refused("ask of no tape", -1, h -> h.ask(0, 0, 0, 0)));
        test.hold(new Refused("breaks no reader", FALSE, h -> number(h.breaks(0))));
        test.hold(new Refused("mends no reader", FALSE, h -> number(h.mends(0))));
        test.hold(new Refused("copy of no tape", -1, h -> h.copy(0, 0, 0, 0, 0)));
        test.hold(new Refused("begins of no item", -1, h -> h.begins(0)));
        test.hold(new Refused("cell of no tape", THROWN, h -> cell(h, 0, 0)));
    }

    private static void ofAFullHall() {
        RefusedTest test = new RefusedTest("full", RefusedTest::full);
        test.hold(everywhere(-1));
        test.hold(new Refused("a thirteenth tape", -1, h -> h.tape(1, 0, 5)));
        test.hold(new Refused("a thirteenth tape, below 0", -1, h -> h.tape(1, 0, -5)));
        test.hold(new Refused("a fourth reader", -1, h -> h.reader(5)));
        test.hold(new Refused("a 151st ask", -1, h -> h.ask(4, 0, 0, 0)));
        test.hold(new Refused("a 151st ask, a scrub", -1, h -> h.ask(3, 1, 0, 0)));
        test.hold(new Refused("a ninth item", -1, h -> h.item(1, 1)));
    }

    private static void ofAHallAtWork() {
        RefusedTest test = new RefusedTest("at work", RefusedTest::atWork);
        test.hold(everywhere(-2));
        test.hold(rowsUnlike());
        test.hold(new Refused("home of another", -1, h -> h.tape(2, 0, 5)));
        test.hold(new Refused("home of another, below 0", -1, h -> h.tape(2, 0, -5)));
        test.hold(new Refused("slot of another", -1, h -> h.reader(10)));
        test.hold(new Refused("breaks a coming one", FALSE, h -> number(h.breaks(1))));
        test.hold(new Refused("mends a busy one", FALSE, h -> number(h.mends(0))));
        test.hold(new Refused("mends a coming one", FALSE, h -> number(h.mends(1))));
        test.hold(new Refused("copies from a reader", -1, h -> h.copy(0, 0, 4, 0, 1)));
        test.hold(new Refused("copies to a reader", -1, h -> h.copy(4, 0, 0, 0, 1)));
        test.hold(new Refused("copies from an arm", -1, h -> h.copy(1, 0, 4, 0, 1)));
        test.hold(new Refused("copies to an arm", -1, h -> h.copy(4, 0, 1, 0, 1)));
    }

    private static void ofABrokenHall() {
        RefusedTest test = new RefusedTest("broken", RefusedTest::broken);
        test.hold(everywhere(-2));
        test.hold(rowsUnlike());
        test.hold(new Refused("breaks a broken one with its tape", FALSE, h -> number(h.breaks(0))));
        test.hold(new Refused("breaks a broken one without a tape", FALSE, h -> number(h.breaks(1))));
        test.hold(new Refused("mends an empty one", FALSE, h -> number(h.mends(2))));
    }

    /** A tape at home that a job has already, and a reader that is over. */
    private static void ofAFetchedTape() {
        RefusedTest test = new RefusedTest("fetched", RefusedTest::fetched);
        test.hold(everywhere(-2));
        test.hold(rowsUnlike());
        test.hold(new Refused("copies from one in a job", -1, h -> h.copy(1, 0, 4, 0, 1)));
        test.hold(new Refused("copies to one in a job", -1, h -> h.copy(4, 0, 1, 0, 1)));
        test.hold(new Refused("mends one that is over", FALSE, h -> number(h.mends(0))));
        test.hold(new Refused("breaks one that is coming", FALSE, h -> number(h.breaks(1))));
    }

    /** Refused in every hall whose first tape, if it has one, has up to 60 places. */
    private static List<Refused> everywhere(int tapeBelowZero) {
        List<Refused> all = new ArrayList<>();
        int[][] tapes = {{-1, 0, 5}, {40, 0, 5}, {37, -1, 5}, {37, 5, 5}, {37, 0, 0}, {37, 0, 61}, {40, 0, -1}};
        for (int[] p : tapes) {
            all.add(new Refused("tape " + p[0] + " " + p[1] + " " + p[2], -1, h -> h.tape(p[0], p[1], p[2])));
        }
        all.add(new Refused("tape of -1 places", tapeBelowZero, h -> h.tape(37, 0, -1)));
        int[] outside = {-1, 40};
        for (int slot : outside) {
            all.add(new Refused("reader " + slot, -1, h -> h.reader(slot)));
        }
        int[][] settings = {{-1001, 0}, {10001, 0}, {-1000, -1}, {-1000, 10001}, {10000, 10001}};
        for (int[] p : settings) {
            all.add(new Refused("settings " + p[0] + " " + p[1], FALSE, h -> number(h.settings(p[0], p[1]))));
        }
        int[][] asks = {{4, -1, 0, 0}, {4, 12, 0, 0}, {-1, 0, 0, 0}, {5, 0, 0, 0}, {0, 0, -1, 0}, {2, 0, 60, 0},
            {4, 0, 60, 0}, {1, 0, 1, 0}, {1, 0, -1, 0}, {1, 0, 0, 60}, {3, 0, -1, 0}};
        for (int[] p : asks) {
            String name = "ask " + p[0] + " " + p[1] + " " + p[2] + " " + p[3];
            all.add(new Refused(name, -1, h -> h.ask(p[0], p[1], p[2], p[3])));
        }
        int[] ticks = {0, -1, 401, Integer.MIN_VALUE, Integer.MAX_VALUE};
        for (int n : ticks) {
            all.add(new Refused("tick " + n, -1, h -> h.tick(n)));
        }
        int[] noReaders = {-1, 3};
        for (int k : noReaders) {
            all.add(new Refused("breaks " + k, FALSE, h -> number(h.breaks(k))));
            all.add(new Refused("mends " + k, FALSE, h -> number(h.mends(k))));
        }
        int[] noTapes = {-1, 12};
        for (int t : noTapes) {
            all.add(new Refused("copy from " + t, -1, h -> h.copy(t, 0, 0, 0, 1)));
            all.add(new Refused("copy to " + t, -1, h -> h.copy(0, 0, t, 0, 1)));
            all.add(new Refused("cell of " + t, THROWN, h -> cell(h, t, 0)));
        }
        all.add(new Refused("cell 60", THROWN, h -> cell(h, 0, 60)));
        int[][] items = {{0, 5}, {51, 5}, {5, -1}, {5, 1001}};
        for (int[] p : items) {
            all.add(new Refused("item " + p[0] + " " + p[1], -1, h -> h.item(p[0], p[1])));
        }
        all.addAll(others());
        return all;
    }

    /** Questions about what is not there. */
    private static List<Refused> others() {
        return List.of(
                new Refused("arm 2", -1, h -> h.arm(2, 0)),
                new Refused("arm what 4", -1, h -> h.arm(0, 4)),
                new Refused("rig 3", -1, h -> h.rig(3, 0)),
                new Refused("rig what 5", -1, h -> h.rig(0, 5)),
                new Refused("tapeOf 12", -1, h -> h.tapeOf(12, 0)),
                new Refused("tapeOf what 7", -1, h -> h.tapeOf(0, 7)),
                new Refused("askOf 150", -1, h -> h.askOf(150, 0)),
                new Refused("askOf what 8", -1, h -> h.askOf(0, 8)),
                new Refused("order 12", -1, h -> h.order(12, 0)),
                new Refused("order behind", -1, h -> h.order(0, 8)),
                new Refused("told 12", -1, h -> h.told(12, 0)),
                new Refused("told what 3", -1, h -> h.told(0, 3)),
                new Refused("begins 8", -1, h -> h.begins(8)),
                new Refused("count 12", -1, h -> h.count(12)));
    }

    /** Of the tapes 4 to 7 that stay at home: two of longs with 5 and 3 places, one of ints, one without a row. */
    private static List<Refused> rowsUnlike() {
        return List.of(
                new Refused("copies from a missing row", -2, h -> h.copy(7, 0, 4, 0, 1)),
                new Refused("copies to a missing row", -2, h -> h.copy(4, 0, 7, 0, 1)),
                new Refused("copies to another kind", -3, h -> h.copy(4, 0, 6, 0, 1)),
                new Refused("copies less than none", -4, h -> h.copy(4, 0, 5, 0, -1)),
                new Refused("copies from ahead", -4, h -> h.copy(4, -1, 5, 0, 2)),
                new Refused("copies to ahead", -4, h -> h.copy(4, 0, 5, -1, 2)),
                new Refused("copies from behind", -4, h -> h.copy(5, 1, 4, 0, 3)),
                new Refused("copies to behind", -4, h -> h.copy(4, 0, 5, 1, 3)),
                new Refused("copies from far off", -4, h -> h.copy(4, Integer.MAX_VALUE, 5, 0, 1)),
                new Refused("copies very many", -4, h -> h.copy(4, 1, 5, 1, Integer.MAX_VALUE)),
                new Refused("cell of a missing row", THROWN, h -> cell(h, 7, 0)));
    }

    private static TapeHall full() {
        TapeHall hall = new TapeHall();
        for (int t = 0; t < 12; t++) {
            hall.tape(3 * t, t % 5, 60 - t);
        }
        for (int k = 0; k < 3; k++) {
            hall.reader(10 + 10 * k);
        }
        for (int k = 0; k < 150; k++) {
            hall.ask(k % 5, k % 12, k % 7, 8 + k % 11);
        }
        for (int i = 0; i < 8; i++) {
            hall.item(8 - i, 1 + i);
        }
        hall.tick(33);
        return hall;
    }

    /** Tapes 0 to 3 for the readers, 4 to 7 at home for good; the two that are alike hold numbers. */
    private static TapeHall tapesAndReaders() {
        TapeHall hall = new TapeHall();
        hall.settings(-1000, 1000);
        int[] homes = {2, 35, 6, 30, 5, 7, 8, 9};
        int[] kinds = {3, 3, 0, 4, 3, 3, 2, 4};
        int[] places = {40, 40, 9, 9, 5, 3, 5, 5};
        for (int t = 0; t < homes.length; t++) {
            hall.tape(homes[t], kinds[t], places[t]);
        }
        hall.reader(10);
        hall.reader(28);
        hall.reader(38);
        hall.item(3, 2);
        hall.item(7, 5);
        hall.item(1, 9);
        return hall;
    }

    /** Reader 0 is at its second ask, on the way up; arm 1 holds the tape that comes to reader 1. */
    private static TapeHall atWork() {
        TapeHall hall = tapesAndReaders();
        hall.ask(0, 0, 10, 0);
        // Put in tick 13, done in tick 23, home in tick 33.
        hall.tick(34);
        hall.ask(4, 0, 12, 0);
        hall.ask(1, 0, 3, 20);
        hall.ask(2, 1, 3, -9);
        // Put in tick 44, 12 takes 3 ticks. Tape 1 is taken in tick 40 and would be put in tick 48.
        hall.tick(14);
        return hall;
    }

    /** Reader 0 is broken with its tape that has been wound, reader 1 without one, reader 2 is empty. */
    private static TapeHall broken() {
        TapeHall hall = tapesAndReaders();
        hall.breaks(1);
        hall.ask(4, 0, 3, 0);
        hall.ask(2, 0, 30, 8);
        // Put in tick 13, 3 takes 4 ticks, 30 would take 28.
        hall.tick(22);
        hall.breaks(0);
        return hall;
    }

    /** Arm 0 is to clear reader 0, arm 1 is on its way to the home of tape 1 for reader 1. */
    private static TapeHall fetched() {
        TapeHall hall = tapesAndReaders();
        hall.ask(4, 0, 0, 0);
        hall.tick(13);
        hall.ask(0, 1, 4, 0);
        hall.tick(1);
        return hall;
    }

    /** The refusals above lean on these. */
    private static void scenesAreAsMeant() {
        TapeHall hall = full();
        long[] counts = {hall.count(0), hall.count(1), hall.count(2), hall.count(10)};
        Due.row("full", counts, 12, 3, 150, 8);
        hall = atWork();
        long[] first = {hall.rig(0, 1), hall.rig(0, 2), hall.rig(0, 3), hall.rig(0, 4), hall.tapeOf(0, 4)};
        Due.row("at work", first, 2, 0, 1, 1, 2);
        long[] second = {hall.rig(1, 1), hall.rig(1, 2), hall.arm(1, 0), hall.arm(1, 1), hall.tapeOf(1, 4)};
        Due.row("at work, coming", second, 1, 1, 28, 2, 1);
        hall = broken();
        long[] broken = {hall.rig(0, 1), hall.rig(0, 2), hall.tapeOf(0, 3), hall.rig(1, 1), hall.rig(1, 2)};
        Due.row("broken", broken, 4, 0, 3, 4, -1);
        Due.same("broken, an empty one", hall.rig(2, 1), 0);
        hall = fetched();
        long[] fetched = {hall.rig(0, 1), hall.rig(1, 1), hall.rig(1, 2), hall.arm(1, 1), hall.tapeOf(1, 4)};
        Due.row("fetched", fetched, 3, 1, 1, 1, 0);
    }

    private static long number(boolean answer) {
        return answer ? 1 : 0;
    }

    private static long cell(TapeHall hall, int t, int i) {
        try {
            return hall.cell(t, i);
        } catch (NoSuchElementException e) {
            return THROWN;
        }
    }

    /** At once, after a tick and some calls that may be taken, after many ticks more. */
    private static void goOn(TapeHall hall, int later) {
        if (later > 0) {
            hall.tick(1);
            hall.tape(36, 3, 4);
            hall.reader(36);
            hall.ask(4, 0, 0, 0);
            hall.item(4, 4);
        }
        if (later > 1) {
            hall.tick(60);
        }
    }

    private long[] looks(int later, Refused refused) {
        return Looks.at(() -> {
            TapeHall hall = making.make();
            if (refused != null) {
                refused.call().on(hall);
            }
            goOn(hall, later);
            return hall;
        });
    }

    private void hold(List<Refused> all) {
        for (Refused refused : all) {
            hold(refused);
        }
    }

    private void hold(Refused refused) {
        String name = scene + ": " + refused.name();
        Due.same(name, refused.call().on(making.make()), refused.due());
        for (int later = 0; later < due.length; later++) {
            same(name + ", later " + later, looks(later, refused), due[later]);
        }
    }

    /** Tells the first answer that is another one; all that follows from it may be many more. */
    private static void same(String name, long[] got, long[] want) {
        int i = Arrays.mismatch(got, want);
        Due.yes(name + (i < 0 ? "" : ": " + Looks.name(i) + " is " + got[i] + ", was " + want[i]), i < 0);
    }
}
