import java.util.NoSuchElementException;
import java.util.Random;

/** Runs of calls drawn from fixed seeds, on a TapeHall and on a PlainHall: the answers are the same. */
final class PlainHallTest {
    private static final int RUNS = 400;
    private static final int CALLS = 512;
    /** As answered by a cell that throws; no other answer comes near it. */
    private static final long THROWN = Long.MIN_VALUE + 77;
    private static final int[] WILD = {-1, -2, 0, 7, 60, 61, 400, 401, 1 << 30, Integer.MIN_VALUE, Integer.MAX_VALUE};

    private final Random random;
    private final TapeHall hall = new TapeHall();
    private final PlainHall plain = new PlainHall();
    private final int seed;
    private final int tapes;
    private final int places;
    private final int wildness;
    private final int pace;

    private PlainHallTest(int seed) {
        this.seed = seed;
        random = new Random(seed);
        tapes = 1 + random.nextInt(12);
        places = 1 + random.nextInt(60);
        wildness = random.nextInt(3) == 0 ? 30 : 0;
        pace = random.nextInt(4) == 0 ? 400 : 1 + random.nextInt(40);
    }

    public static void main(String[] args) {
        for (int seed = 1; seed <= RUNS; seed++) {
            new PlainHallTest(seed).run();
        }
        Due.close();
    }

    private void run() {
        for (int t = 0; t < tapes; t++) {
            compare(0, number(40), number(5), number(places) + 1, 0, 0);
        }
        for (int r = 0; r < 3; r++) {
            compare(1, number(40), 0, 0, 0, 0);
        }
        for (int i = tapes + 3; i < CALLS - 4; i++) {
            step();
        }
        for (int what = 8; what < 12; what++) {
            compare(19, what, 0, 0, 0, 0);
        }
    }

    private int number(int below) {
        return random.nextInt(100) < wildness ? WILD[random.nextInt(WILD.length)] : random.nextInt(below);
    }

    private void step() {
        int draw = random.nextInt(100);
        if (draw < 28) {
            ask();
        } else if (draw < 45) {
            compare(4, 1 + number(pace), 0, 0, 0, 0);
        } else if (draw < 48) {
            compare(11, number(3), 0, 0, 0, 0);
        } else if (draw < 52) {
            compare(12, number(3), 0, 0, 0, 0);
        } else if (draw < 54) {
            compare(2, number(400) - 200, number(300), 0, 0, 0);
        } else if (draw < 58) {
            compare(13, number(tapes), number(places), number(tapes), number(places), number(1 + places / 2));
        } else if (draw < 61) {
            compare(14, 1 + number(50), number(20), 0, 0, 0);
        } else {
            look();
        }
    }

    private void ask() {
        int kind = random.nextInt(3) == 0 ? 1 : number(5);
        int a = kind == 3 ? number(1000) : number(places);
        int b = kind == 1 ? a + number(places) / 2 : random.nextInt() >> random.nextInt(32);
        compare(3, kind, number(tapes), a, b, 0);
    }

    private void look() {
        int call = random.nextInt(14);
        switch (call) {
            case 0:
                compare(5, number(2), number(5), 0, 0, 0);
                break;
            case 1:
            case 2:
                compare(6, number(3), number(6), 0, 0, 0);
                break;
            case 3:
            case 4:
                compare(7, number(tapes), number(8), 0, 0, 0);
                break;
            case 5:
                compare(8, number(tapes), number(places), 0, 0, 0);
                break;
            case 6:
            case 7:
                compare(9, number(100), number(9), 0, 0, 0);
                break;
            case 8:
                compare(10, number(tapes), number(9), 0, 0, 0);
                break;
            case 9:
                compare(15, number(tapes), number(4), 0, 0, 0);
                break;
            case 10:
                compare(16, 0, 0, 0, 0, 0);
                break;
            case 11:
                compare(17, number(9), 0, 0, 0, 0);
                break;
            case 12:
                compare(random.nextInt(12) == 0 ? 18 : 19, number(13), 0, 0, 0, 0);
                break;
            default:
                compare(19, number(13), 0, 0, 0, 0);
                break;
        }
    }

    private void compare(int call, int p, int q, int r, int s, int n) {
        long want = plainly(call, p, q, r, s, n);
        long got = answer(call, p, q, r, s, n);
        if (got != want) {
            System.out.println("seed " + seed + ":");
        }
        Due.same("call " + call + "(" + p + ", " + q + ", " + r + ", " + s + ", " + n + ")", got, want);
    }

    private long answer(int call, int p, int q, int r, int s, int n) {
        switch (call) {
            case 0: return hall.tape(p, q, r);
            case 1: return hall.reader(p);
            case 2: return hall.settings(p, q) ? 1 : 0;
            case 3: return hall.ask(p, q, r, s);
            case 4: return hall.tick(p);
            case 5: return hall.arm(p, q);
            case 6: return hall.rig(p, q);
            case 7: return hall.tapeOf(p, q);
            case 8:
                try {
                    return hall.cell(p, q);
                } catch (NoSuchElementException e) {
                    return THROWN;
                }
            case 9: return hall.askOf(p, q);
            case 10: return hall.order(p, q);
            case 11: return hall.breaks(p) ? 1 : 0;
            case 12: return hall.mends(p) ? 1 : 0;
            case 13: return hall.copy(p, q, r, s, n);
            case 14: return hall.item(p, q);
            case 15: return hall.told(p, q);
            case 16: return hall.laid();
            case 17: return hall.begins(p);
            case 18: return hall.clear();
            default: return hall.count(p);
        }
    }

    private long plainly(int call, int p, int q, int r, int s, int n) {
        switch (call) {
            case 0: return plain.tape(p, q, r);
            case 1: return plain.reader(p);
            case 2: return plain.settings(p, q) ? 1 : 0;
            case 3: return plain.ask(p, q, r, s);
            case 4: return plain.tick(p);
            case 5: return plain.arm(p, q);
            case 6: return plain.rig(p, q);
            case 7: return plain.tapeOf(p, q);
            case 8:
                try {
                    return plain.cell(p, q);
                } catch (NoSuchElementException e) {
                    return THROWN;
                }
            case 9: return plain.askOf(p, q);
            case 10: return plain.order(p, q);
            case 11: return plain.breaks(p) ? 1 : 0;
            case 12: return plain.mends(p) ? 1 : 0;
            case 13: return plain.copy(p, q, r, s, n);
            case 14: return plain.item(p, q);
            case 15: return plain.told(p, q);
            case 16: return plain.laid();
            case 17: return plain.begins(p);
            case 18: return plain.clear();
            default: return plain.count(p);
        }
    }
}
