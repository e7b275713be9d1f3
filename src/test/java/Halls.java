/** The numbers of the document's words, and halls that several tests begin with. */
final class Halls {
    static final int NONE = -1;

    static final int BYTES = 0;
    static final int SHORTS = 1;
    static final int INTS = 2;
    static final int LONGS = 3;
    static final int MISSING = 4;

    static final int READ = 0;
    static final int SPAN = 1;
    static final int WRITE = 2;
    static final int SCRUB = 3;
    static final int URGENT = 4;

    static final int WAITS = 0;
    static final int AT_WORK = 1;
    static final int DONE = 2;
    static final int FAILED = 3;

    static final int EMPTY = 0;
    static final int COMING = 1;
    static final int BUSY = 2;
    static final int OVER = 3;
    static final int BROKEN = 4;

    static final int LEAST = Integer.MIN_VALUE;
    static final int GREATEST = Integer.MAX_VALUE;

    private Halls() {
    }

    /**
     * One tape and one reader, both at 0. An ask that waits at first is chosen in tick 0; arm 0 is there
     * in tick 1, takes in tick 2 and puts in tick 3, which is the first tick of work.
     */
    static TapeHall together(int kind, int places) {
        TapeHall hall = new TapeHall();
        hall.tape(0, kind, places);
        hall.reader(0);
        return hall;
    }

    /** So many tapes of longs at 0, 1 .. and a reader at 0. */
    static TapeHall sideBySide(int tapes) {
        TapeHall hall = new TapeHall();
        for (int t = 0; t < tapes; t++) {
            hall.tape(t, LONGS, 40);
        }
        hall.reader(0);
        return hall;
    }

    /** One tape and one reader as far apart as can be: an ask of age 0 is worth 10 - 78. */
    static TapeHall farApart() {
        TapeHall hall = new TapeHall();
        hall.tape(39, LONGS, 40);
        hall.reader(0);
        return hall;
    }

    static void ask(TapeHall hall, int kind, int tape, int times) {
        for (int i = 0; i < times; i++) {
            hall.ask(kind, tape, 0, 0);
        }
    }

    /** As many ticks as it takes, beyond what one call does, too. */
    static void ticks(TapeHall hall, int n) {
        int left = n;
        while (left > 0) {
            int some = Math.min(left, 400);
            hall.tick(some);
            left -= some;
        }
    }

    static long[] cells(TapeHall hall, int t, int n) {
        long[] row = new long[n];
        for (int i = 0; i < n; i++) {
            row[i] = hall.cell(t, i);
        }
        return row;
    }

    /** Place, state of the job, its tape, where it puts. */
    static void armIs(String name, TapeHall hall, int k, int... due) {
        for (int what = 0; what < due.length; what++) {
            Due.same(name + ": arm " + k + " what " + what, hall.arm(k, what), due[what]);
        }
    }

    /** State, tape, asks at work, ticks of the first; the slot is not among them. */
    static void rigIs(String name, TapeHall hall, int k, int... due) {
        for (int what = 0; what < due.length; what++) {
            Due.same(name + ": rig " + k + " what " + (what + 1), hall.rig(k, what + 1), due[what]);
        }
    }

    /** The tape that comes to reader 0 in the tick at hand. */
    static int comesFirst(TapeHall hall) {
        hall.tick(1);
        return hall.rig(0, 2);
    }

    /** Sizes and counts by turns. */
    static TapeHall items(int... sizesAndCounts) {
        TapeHall hall = new TapeHall();
        for (int i = 0; i < sizesAndCounts.length; i += 2) {
            Due.same("item", hall.item(sizesAndCounts[i], sizesAndCounts[i + 1]), i / 2);
        }
        return hall;
    }

    /** The winding, where each item begins, and that there are no more. */
    static void layIs(String name, TapeHall hall, long winding, long... begins) {
        Due.same(name + ": laid", hall.laid(), winding);
        for (int i = 0; i < begins.length; i++) {
            Due.same(name + ": begins " + i, hall.begins(i), begins[i]);
        }
        Due.same(name + ": begins behind", hall.begins(begins.length), -1);
    }
}
