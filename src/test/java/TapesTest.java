import java.util.NoSuchElementException;

/** Promises 1 to 4, 9, 10, 16: a new object, tapes and readers as they come, settings, rows. */
final class TapesTest {
    private static final int READ = 0;
    private static final int WRITE = 2;

    public static void main(String[] args) {
        newObject();
        tapes();
        tapesAreFull();
        readers();
        settings();
        tapeOf();
        cells();
        cutOfWrites();
        copies();
        copiesIntoItself();
        copiesAtHomeAlone();
        Due.close();
    }

    private static void newObject() {
        TapeHall hall = new TapeHall();
        for (int what = 0; what <= 11; what++) {
            Due.same("new: count " + what, hall.count(what), 0);
        }
        Due.same("new: arm 0 place", hall.arm(0, 0), -1);
        Due.same("new: arm 1 place", hall.arm(1, 0), 40);
        for (int k = 0; k <= 1; k++) {
            Due.same("new: arm without a job", hall.arm(k, 1), 0);
            Due.same("new: arm without a tape", hall.arm(k, 2), -1);
            Due.same("new: arm puts nowhere", hall.arm(k, 3), -1);
        }
        Due.same("new: tape", hall.tapeOf(0, 0), -1);
        Due.same("new: reader", hall.rig(0, 0), -1);
        Due.same("new: ask", hall.askOf(0, 0), -1);
        Due.same("new: laid", hall.laid(), 0);
        Due.same("new: tick", hall.tick(400), 0);
        Due.same("new: arms rest", hall.count(11), 0);
        Due.same("another object has none of it", new TapeHall().count(3), 0);
    }

    private static void tapes() {
        TapeHall hall = new TapeHall();
        Due.same("home -1", hall.tape(-1, 0, 5), -1);
        Due.same("home 40", hall.tape(40, 0, 5), -1);
        Due.same("kind -1", hall.tape(0, -1, 5), -1);
        Due.same("kind 5", hall.tape(0, 5, 5), -1);
        Due.same("no places", hall.tape(0, 0, 0), -1);
        Due.same("61 places", hall.tape(0, 0, 61), -1);
        Due.same("-1 places", hall.tape(0, 0, -1), -2);
        Due.same("least places", hall.tape(0, 0, Integer.MIN_VALUE), -2);
        Due.same("-1 places, no such home", hall.tape(40, 0, -1), -1);
        Due.same("-1 places, no such kind", hall.tape(0, 5, -1), -1);
        Due.same("none came", hall.count(0), 0);
        Due.same("home 0", hall.tape(0, 0, 1), 0);
        Due.same("home 39", hall.tape(39, 4, 60), 1);
        Due.same("home of another", hall.tape(0, 1, 5), -1);
        Due.same("home of another, -1 places", hall.tape(39, 1, -1), -1);
        Due.same("two came", hall.count(0), 2);
        Due.same("extremes", hall.tape(Integer.MAX_VALUE, Integer.MIN_VALUE, Integer.MAX_VALUE), -1);
    }

    private static void tapesAreFull() {
        TapeHall hall = new TapeHall();
        for (int t = 0; t < 12; t++) {
            Due.same("tape " + t, hall.tape(3 * t, t % 5, t + 1), t);
        }
        Due.same("a thirteenth", hall.tape(1, 0, 5), -1);
        Due.same("a thirteenth, -1 places", hall.tape(1, 0, -1), -1);
        Due.same("twelve", hall.count(0), 12);
        Due.same("the last one", hall.tapeOf(11, 2), 12);
    }

    private static void readers() {
        TapeHall hall = new TapeHall();
        hall.tape(7, 0, 5);
        Due.same("slot -1", hall.reader(-1), -1);
        Due.same("slot 40", hall.reader(40), -1);
        Due.same("slot 0", hall.reader(0), 0);
        Due.same("slot of another", hall.reader(0), -1);
        Due.same("slot of a tape", hall.reader(7), 1);
        Due.same("a tape at a reader's slot", hall.tape(0, 0, 5), 1);
        Due.same("slot 39", hall.reader(39), 2);
        Due.same("a fourth", hall.reader(5), -1);
        Due.same("three", hall.count(1), 3);
        Due.same("slot told", hall.rig(2, 0), 39);
        Due.same("empty", hall.rig(2, 1), 0);
        Due.same("without a tape", hall.rig(2, 2), -1);
        Due.same("without asks", hall.rig(2, 3), 0);
        Due.same("without ticks", hall.rig(2, 4), 0);
        Due.same("another what", hall.rig(2, 5), -1);
        Due.same("what -1", hall.rig(2, -1), -1);
        Due.same("reader 3", hall.rig(3, 0), -1);
        Due.same("reader -1", hall.rig(-1, 0), -1);
    }

    private static void settings() {
        TapeHall hall = new TapeHall();
        Due.yes("the least", hall.settings(-1000, 0));
        Due.yes("the greatest", hall.settings(10000, 10000));
        Due.no("threshold below", hall.settings(-1001, 5));
        Due.no("threshold above", hall.settings(10001, 5));
        Due.no("bound below", hall.settings(5, -1));
        Due.no("bound above", hall.settings(5, 10001));
        // The refused ones changed nothing: 10000 is still out of reach for an ask of 10.
        hall.tape(0, 0, 5);
        hall.reader(0);
        hall.ask(READ, 0, 0, 0);
        hall.tick(5);
        Due.same("below the threshold", hall.rig(0, 1), 0);
    }

    private static void tapeOf() {
        TapeHall hall = new TapeHall();
        hall.tape(9, 1, 33);
        Due.same("home", hall.tapeOf(0, 0), 9);
        Due.same("kind", hall.tapeOf(0, 1), 1);
        Due.same("places", hall.tapeOf(0, 2), 33);
        Due.same("head", hall.tapeOf(0, 3), 0);
        Due.same("at home", hall.tapeOf(0, 4), 0);
        Due.same("no asks", hall.tapeOf(0, 5), 0);
        Due.same("worth without asks", hall.tapeOf(0, 6), -18);
        hall.ask(READ, 0, 3, 0);
        hall.tick(7);
        hall.ask(4, 0, 3, 0);
        hall.ask(3, 0, 3, 0);
        hall.tick(5);
        Due.same("three asks", hall.tapeOf(0, 5), 3);
        // 12 and 10 of the read, 5 and 100 of the urgent one, nothing of the scrub, less 18.
        Due.same("worth", hall.tapeOf(0, 6), 109);
        Due.same("another what", hall.tapeOf(0, 7), -1);
        Due.same("what -1", hall.tapeOf(0, -1), -1);
        Due.same("tape 1", hall.tapeOf(1, 0), -1);
        Due.same("tape -1", hall.tapeOf(-1, 0), -1);
    }

    private static boolean cellThrows(TapeHall hall, int t, int i) {
        try {
            hall.cell(t, i);
            return false;
        } catch (NoSuchElementException e) {
            return true;
        }
    }

    private static void cells() {
        TapeHall hall = new TapeHall();
        hall.tape(0, 3, 4);
        hall.tape(1, 4, 4);
        Due.same("first", hall.cell(0, 0), 0);
        Due.same("last", hall.cell(0, 3), 0);
        Due.yes("place 4", cellThrows(hall, 0, 4));
        Due.yes("place -1", cellThrows(hall, 0, -1));
        Due.yes("missing row", cellThrows(hall, 1, 0));
        Due.yes("tape 2", cellThrows(hall, 2, 0));
        Due.yes("tape -1", cellThrows(hall, -1, 0));
        Due.yes("extremes", cellThrows(hall, Integer.MAX_VALUE, Integer.MIN_VALUE));
    }

    /** One tape of a kind at home 0, its reader there, and the numbers written from place 0 on. */
    private static TapeHall written(int kind, int... numbers) {
        TapeHall hall = new TapeHall();
        hall.settings(-1000, 1000);
        hall.tape(0, kind, 10);
        hall.reader(0);
        for (int i = 0; i < numbers.length; i++) {
            hall.ask(WRITE, 0, i, numbers[i]);
        }
        hall.tick(100);
        return hall;
    }

    private static void cutOfWrites() {
        int[] numbers = {127, 128, -129, 32768, 65536 + 5, Integer.MIN_VALUE};
        long[][] due = {
            {127, -128, 127, 0, 5, 0},
            {127, 128, -129, -32768, 5, 0},
            {127, 128, -129, 32768, 65541, Integer.MIN_VALUE},
            {127, 128, -129, 32768, 65541, Integer.MIN_VALUE}};
        for (int kind = 0; kind < 4; kind++) {
            TapeHall hall = written(kind, numbers);
            for (int i = 0; i < numbers.length; i++) {
                Due.same("kind " + kind + " holds of " + numbers[i], hall.cell(0, i), due[kind][i]);
            }
            Due.same("beside it", hall.cell(0, 6), 0);
        }
    }

    private static void copies() {
        TapeHall hall = written(1, 10, 20, 30, 40);
        hall.tape(1, 1, 6);
        hall.tape(2, 2, 6);
        hall.tape(3, 4, 6);
        hall.tape(4, 4, 6);
        Due.same("three of them", hall.copy(0, 1, 1, 2, 3), 3);
        Due.row("copied", cellsOf(hall, 1, 6), 0, 0, 20, 30, 40, 0);
        Due.row("read alone", cellsOf(hall, 0, 5), 10, 20, 30, 40, 0);
        Due.same("none", hall.copy(0, 10, 1, 6, 0), 0);
        Due.same("to the last", hall.copy(0, 4, 1, 0, 6), 6);
        Due.same("no such source", hall.copy(5, 0, 1, 0, 1), -1);
        Due.same("no such target", hall.copy(0, 0, -1, 0, 1), -1);
        Due.same("source's row is missing", hall.copy(3, 0, 1, 0, 1), -2);
        Due.same("target's row is missing", hall.copy(1, 0, 3, 0, 1), -2);
        Due.same("both rows are missing", hall.copy(3, 0, 4, 0, -1), -2);
        Due.same("unlike kinds", hall.copy(1, 0, 2, 0, 1), -3);
        Due.same("unlike kinds, n below 0", hall.copy(1, 0, 2, 0, -1), -3);
        Due.same("n below 0", hall.copy(0, 0, 1, 0, -1), -4);
        Due.same("at below 0", hall.copy(0, -1, 1, 0, 1), -4);
        Due.same("where below 0", hall.copy(0, 0, 1, -1, 1), -4);
        Due.same("beyond the source", hall.copy(1, 1, 0, 0, 6), -4);
        Due.same("beyond the target", hall.copy(0, 0, 1, 1, 6), -4);
        Due.same("none beyond the source", hall.copy(0, 11, 1, 0, 0), -4);
        Due.same("wraps", hall.copy(0, 1, 1, 1, Integer.MAX_VALUE), -4);
        Due.same("at wraps", hall.copy(0, Integer.MAX_VALUE, 1, 0, 1), -4);
        Due.same("where wraps", hall.copy(0, 0, 1, Integer.MAX_VALUE, 1), -4);
        Due.row("refused ones changed nothing", cellsOf(hall, 1, 6), 0, 0, 0, 0, 0, 0);
    }

    private static void copiesIntoItself() {
        TapeHall hall = written(3, 1, 2, 3, 4, 5);
        Due.same("up", hall.copy(0, 0, 0, 1, 5), 5);
        Due.row("up", cellsOf(hall, 0, 7), 1, 1, 2, 3, 4, 5, 0);
        Due.same("down", hall.copy(0, 2, 0, 0, 4), 4);
        Due.row("down", cellsOf(hall, 0, 7), 2, 3, 4, 5, 4, 5, 0);
    }

    private static void copiesAtHomeAlone() {
        TapeHall hall = new TapeHall();
        hall.tape(0, 0, 5);
        hall.tape(5, 0, 5);
        hall.reader(3);
        hall.ask(READ, 0, 0, 0);
        Due.same("both at home", hall.copy(0, 0, 1, 0, 1), 1);
        hall.tick(1);
        Due.same("in a job, at home", hall.tapeOf(0, 4), 0);
        Due.same("source in a job", hall.copy(0, 0, 1, 0, 1), -1);
        Due.same("target in a job", hall.copy(1, 0, 0, 0, 1), -1);
        Due.same("itself in a job", hall.copy(0, 0, 0, 0, 1), -1);
        hall.tick(2);
        Due.same("with the arm", hall.tapeOf(0, 4), 1);
        Due.same("source with an arm", hall.copy(0, 0, 1, 0, -1), -1);
        hall.tick(4);
        Due.same("in the reader", hall.tapeOf(0, 4), 2);
        Due.same("target in a reader", hall.copy(1, 0, 0, 0, 1), -1);
        hall.tick(10);
        Due.same("home again", hall.copy(1, 0, 0, 0, 1), 1);
    }

    private static long[] cellsOf(TapeHall hall, int t, int n) {
        long[] row = new long[n];
        for (int i = 0; i < n; i++) {
            row[i] = hall.cell(t, i);
        }
        return row;
    }
}
