/** Promises 2, 3, 9, 10, 16 by ordinary inputs: tapes and readers as they come, what they tell, rows copied. */
final class TapesTest {
    public static void main(String[] args) {
        comesAsItIsMade();
        asksAndWorth();
        copies();
        copiesOfEachKind();
        Due.close();
    }

    private static void comesAsItIsMade() {
        TapeHall hall = new TapeHall();
        Due.same("tape", hall.tape(9, 1, 33), 0);
        Due.same("home", hall.tapeOf(0, 0), 9);
        Due.same("kind", hall.tapeOf(0, 1), 1);
        Due.same("places", hall.tapeOf(0, 2), 33);
        Due.same("head", hall.tapeOf(0, 3), 0);
        Due.same("at home", hall.tapeOf(0, 4), 0);
        Due.same("no asks", hall.tapeOf(0, 5), 0);
        Due.same("worth without asks", hall.tapeOf(0, 6), -18);
        Due.same("reader", hall.reader(17), 0);
        Due.same("slot", hall.rig(0, 0), 17);
        Due.same("one tape", hall.count(0), 1);
        Due.same("one reader", hall.count(1), 1);
    }

    private static void asksAndWorth() {
        TapeHall hall = new TapeHall();
        hall.tape(9, 1, 33);
        hall.ask(Halls.READ, 0, 3, 0);
        hall.tick(7);
        hall.ask(Halls.URGENT, 0, 3, 0);
        hall.ask(Halls.SCRUB, 0, 3, 0);
        hall.tick(5);
        Due.same("three asks", hall.tapeOf(0, 5), 3);
        // 12 and 10 of the read, 5 and 100 of the urgent one, nothing of the scrub, less 18.
        Due.same("worth", hall.tapeOf(0, 6), 109);
    }

    /** A tape of a kind at 0 that holds 10, 20, 30, 40, and another one of it at 1. */
    private static TapeHall written(int kind) {
        TapeHall hall = Halls.together(kind, 10);
        hall.tape(1, kind, 6);
        for (int i = 0; i < 4; i++) {
            hall.ask(Halls.WRITE, 0, i, 10 + 10 * i);
        }
        hall.tick(100);
        return hall;
    }

    private static void copies() {
        TapeHall hall = written(Halls.SHORTS);
        Due.same("three of them", hall.copy(0, 1, 1, 2, 3), 3);
        Due.row("copied", Halls.cells(hall, 1, 6), 0, 0, 20, 30, 40, 0);
        Due.row("read alone", Halls.cells(hall, 0, 5), 10, 20, 30, 40, 0);
        Due.same("back, over others", hall.copy(1, 3, 0, 0, 3), 3);
        Due.row("copied back", Halls.cells(hall, 0, 5), 30, 40, 0, 40, 0);
        hall.ask(Halls.SPAN, 1, 2, 4);
        hall.tick(100);
        Due.same("what was copied is read", hall.askOf(4, 5), 90);
    }

    private static void copiesOfEachKind() {
        for (int kind = Halls.BYTES; kind <= Halls.LONGS; kind++) {
            TapeHall hall = written(kind);
            Due.same("kind " + kind, hall.copy(0, 0, 1, 1, 4), 4);
            Due.row("kind " + kind, Halls.cells(hall, 1, 6), 0, 10, 20, 30, 40, 0);
        }
    }
}
