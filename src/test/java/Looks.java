import java.util.NoSuchElementException;

/** All that a hall tells. It is made anew again and again, so that none is used for more than 512 calls. */
final class Looks {
    interface Making {
        TapeHall make();
    }

    /** As told of a cell that throws; no number that an ask writes comes near it. */
    private static final long THROWN = Long.MIN_VALUE + 77;
    private static final int AT_ONCE = 200;

    private static final int COUNTS = 12;
    private static final int ARMS = 2 * 4;
    private static final int RIGS = 3 * 5;
    private static final int TAPES = 12 * 7;
    private static final int CELLS = 12 * 60;
    private static final int ASKS = 150 * 8;
    private static final int ORDERS = 12 * 8;
    private static final int TOLD = 12 * 3;
    private static final int ITEMS = 1 + 8;
    private static final int[] MANY = {COUNTS, ARMS, RIGS, TAPES, CELLS, ASKS, ORDERS, TOLD, ITEMS};

    private Looks() {
    }

    static long[] at(Making making) {
        int all = 0;
        for (int many : MANY) {
            all += many;
        }
        long[] told = new long[all];
        TapeHall hall = null;
        for (int i = 0; i < all; i++) {
            if (i % AT_ONCE == 0) {
                hall = making.make();
            }
            told[i] = look(hall, i);
        }
        return told;
    }

    /** The call whose answer stands there in the row, as text. */
    static String name(int i) {
        String[] calls = {"count", "arm", "rig", "tapeOf", "cell", "askOf", "order", "told", "laid, begins"};
        int[] whats = {COUNTS, 4, 5, 7, 60, 8, 8, 3, ITEMS};
        int rest = i;
        int call = 0;
        while (rest >= MANY[call]) {
            rest -= MANY[call];
            call++;
        }
        return calls[call] + " " + rest / whats[call] + ", " + rest % whats[call];
    }

    private static long look(TapeHall hall, int i) {
        int rest = i;
        int call = 0;
        while (rest >= MANY[call]) {
            rest -= MANY[call];
            call++;
        }
        switch (call) {
            case 0: return hall.count(rest);
            case 1: return hall.arm(rest / 4, rest % 4);
            case 2: return hall.rig(rest / 5, rest % 5);
            case 3: return hall.tapeOf(rest / 7, rest % 7);
            case 4: return cell(hall, rest / 60, rest % 60);
            case 5: return hall.askOf(rest / 8, rest % 8);
            case 6: return hall.order(rest / 8, rest % 8);
            case 7: return hall.told(rest / 3, rest % 3);
            default: return rest == 0 ? hall.laid() : hall.begins(rest - 1);
        }
    }

    private static long cell(TapeHall hall, int t, int i) {
        try {
            return hall.cell(t, i);
        } catch (NoSuchElementException e) {
            return THROWN;
        }
    }
}
