/**
 * What the document says at the edges of step c of a TICK: which TAPE is CHOSEN, and that there is none.
 * Above each test stands the sentence that it would see broken.
 */
final class ChosenEdgesTest {
    public static void main(String[] args) {
        ticksWithoutReader();
        ticksWithoutTape();
        ticksWithoutAsk();
        noEmptyReader();
        emptyOnceItIsTaken();
        thresholdAtFirst();
        thresholdReached();
        likeWorths();
        boundAtFirst();
        boundReached();
        boundFirstByNumber();
        boundButForScrubs();
        boundOfWaitingAsks();
        scrubDueByHundred();
        scrubOverdue();
        scrubDueFarOff();
        likeScrubs();
        scrubOfTheseTapes();
        boundOfTapesAway();
        Due.close();
    }

    /** Part 2: nothing is brought where no READER is. */
    private static void ticksWithoutReader() {
        TapeHall hall = new TapeHall();
        hall.tape(0, Halls.LONGS, 5);
        hall.ask(Halls.URGENT, 0, 0, 0);
        Due.same("none ends", hall.tick(400), 0);
        Halls.armIs("rests", hall, 0, -1, 0, -1, -1);
        Halls.armIs("rests", hall, 1, 40, 0, -1, -1);
        Due.same("waits", hall.count(4), 1);
        Due.same("no place gone", hall.count(11), 0);
    }

    /** Part 2: nothing is brought where no TAPE is. */
    private static void ticksWithoutTape() {
        TapeHall hall = new TapeHall();
        hall.reader(0);
        hall.reader(39);
        Due.same("none ends", hall.tick(400), 0);
        Halls.rigIs("empty", hall, 0, Halls.EMPTY, -1, 0, 0);
        Halls.rigIs("empty", hall, 1, Halls.EMPTY, -1, 0, 0);
        Due.same("no place gone", hall.count(11), 0);
    }

    /** Part 2, CHOSEN: a TAPE of which no ASK WAITS is not, whatever the THRESHOLD. */
    private static void ticksWithoutAsk() {
        TapeHall hall = Halls.sideBySide(2);
        hall.settings(-1000, 0);
        Due.same("none ends", hall.tick(400), 0);
        Halls.rigIs("empty", hall, 0, Halls.EMPTY, -1, 0, 0);
        Due.same("no place gone", hall.count(11), 0);
    }

    /** Part 2: "to bring the TAPE that is CHOSEN .. to the first EMPTY READER": without one nothing is brought. */
    private static void noEmptyReader() {
        TapeHall hall = new TapeHall();
        for (int t = 0; t < 4; t++) {
            hall.tape(t, Halls.LONGS, 60);
            hall.ask(Halls.SCRUB, t, t, 0);
        }
        for (int k = 0; k < 3; k++) {
            hall.reader(k);
        }
        // Put in tick 3 by arm 0; in tick 41 by arm 1, from 40; in tick 45 by arm 0, which pushes arm 1 to 3.
        hall.tick(62);
        int[] done = {59, 21, 17};
        for (int k = 0; k < 3; k++) {
            Halls.rigIs("busy", hall, k, Halls.BUSY, k, 1, done[k]);
        }
        Due.same("the fourth is at home", hall.tapeOf(3, 4), 0);
        Halls.armIs("rests", hall, 0, 2, 0, -1, -1);
        Halls.armIs("rests", hall, 1, 3, 0, -1, -1);
        hall.tick(1);
        Halls.rigIs("the first is over", hall, 0, Halls.OVER, 0, 0, 0);
        Halls.armIs("that goes back ahead of the fourth", hall, 0, 2, 1, 0, 0);
    }

    /** Part 3: "till an ARM takes that (an OVER one is EMPTY then": from that tick on another one may come. */
    private static void emptyOnceItIsTaken() {
        TapeHall hall = new TapeHall();
        hall.tape(0, Halls.LONGS, 5);
        hall.tape(1, Halls.LONGS, 5);
        hall.reader(0);
        hall.ask(Halls.URGENT, 0, 0, 0);
        hall.ask(Halls.READ, 1, 0, 0);
        hall.tick(4);
        Halls.rigIs("tick 3", hall, 0, Halls.OVER, 0, 0, 0);
        hall.tick(1);
        Halls.rigIs("tick 4: taken", hall, 0, Halls.EMPTY, -1, 0, 0);
        Due.same("tick 4: with the arm", hall.tapeOf(0, 4), 1);
        hall.tick(1);
        Due.same("tick 5: home", hall.tapeOf(0, 4), 0);
        Halls.rigIs("tick 5: the other one comes", hall, 0, Halls.COMING, 1, 0, 0);
    }

    /** Part 2: "THRESHOLD is 0 .. at first": a worth of -1 is below it, one of 0 is not. */
    private static void thresholdAtFirst() {
        TapeHall hall = new TapeHall();
        hall.tape(8, Halls.LONGS, 5);
        hall.reader(0);
        hall.ask(Halls.READ, 0, 0, 0);
        hall.tick(6);
        Halls.rigIs("tick 5: worth -1", hall, 0, Halls.EMPTY, -1, 0, 0);
        hall.tick(1);
        Halls.rigIs("tick 6: worth 0", hall, 0, Halls.COMING, 0, 0, 0);
    }

    /** Part 2, CHOSEN: "if that is THRESHOLD or more". */
    private static void thresholdReached() {
        TapeHall hall = Halls.together(Halls.LONGS, 5);
        hall.settings(15, 1000);
        hall.ask(Halls.READ, 0, 0, 0);
        hall.tick(5);
        Halls.rigIs("tick 4: worth 14", hall, 0, Halls.EMPTY, -1, 0, 0);
        hall.tick(1);
        Halls.rigIs("tick 5: worth 15", hall, 0, Halls.COMING, 0, 0, 0);
    }

    /** Part 2, CHOSEN: "the greatest WORTH, of like ones the least number". */
    private static void likeWorths() {
        for (int more = 0; more <= 1; more++) {
            TapeHall hall = new TapeHall();
            hall.tape(21, Halls.LONGS, 5);
            hall.tape(19, Halls.LONGS, 5);
            hall.ask(Halls.READ, 1, 0, 0);
            if (more == 1) {
                hall.tick(1);
            }
            hall.ask(Halls.READ, 0, 0, 0);
            hall.reader(20);
            Due.same("worth more by " + more, Halls.comesFirst(hall), more);
        }
    }

    /** Part 2: "BOUND 1000 at first": of two tapes the one that is worth less is overdue at that age. */
    private static void boundAtFirst() {
        for (int tick = 999; tick <= 1000; tick++) {
            TapeHall hall = new TapeHall();
            hall.tape(0, Halls.LONGS, 5);
            hall.tape(39, Halls.LONGS, 5);
            hall.ask(Halls.READ, 1, 0, 0);
            hall.tick(1);
            Halls.ask(hall, Halls.URGENT, 0, 60);
            Halls.ticks(hall, tick - 1);
            hall.reader(0);
            Due.same("age " + tick, Halls.comesFirst(hall), tick - 999);
        }
    }

    /** Part 2, CHOSEN: "of AGE BOUND or more". */
    private static void boundReached() {
        TapeHall hall = Halls.sideBySide(3);
        hall.settings(10000, 20);
        hall.tick(7);
        hall.ask(Halls.READ, 2, 0, 0);
        hall.tick(1);
        hall.ask(Halls.URGENT, 1, 0, 0);
        hall.tick(19);
        Halls.rigIs("tick 26: age 19", hall, 0, Halls.EMPTY, -1, 0, 0);
        hall.tick(1);
        Halls.rigIs("tick 27: age 20", hall, 0, Halls.COMING, 2, 0, 0);
    }

    /** Part 2, CHOSEN: "the TAPE of the first one of these by number", whatever the others are worth. */
    private static void boundFirstByNumber() {
        TapeHall hall = Halls.sideBySide(3);
        hall.settings(0, 0);
        hall.ask(Halls.READ, 2, 0, 0);
        Halls.ask(hall, Halls.URGENT, 0, 9);
        hall.ask(Halls.READ, 1, 0, 0);
        Due.same("the first", Halls.comesFirst(hall), 2);
    }

    /** Part 2, CHOSEN: "if ASKS WAIT, but for SCRUBS, of AGE BOUND or more". */
    private static void boundButForScrubs() {
        TapeHall hall = Halls.sideBySide(3);
        hall.settings(10000, 20);
        hall.ask(Halls.SCRUB, 1, 100000, 0);
        hall.ask(Halls.READ, 2, 0, 0);
        hall.tick(20);
        Halls.rigIs("tick 19", hall, 0, Halls.EMPTY, -1, 0, 0);
        hall.tick(1);
        Halls.rigIs("tick 20: not that of the scrub, though it is the first", hall, 0, Halls.COMING, 2, 0, 0);
    }

    /** Part 2, CHOSEN: "if ASKS WAIT": those that are done are as old. */
    private static void boundOfWaitingAsks() {
        TapeHall hall = Halls.sideBySide(2);
        hall.ask(Halls.READ, 0, 0, 0);
        Due.same("done", hall.tick(30), 1);
        hall.settings(10000, 20);
        hall.ask(Halls.READ, 1, 0, 0);
        hall.tick(20);
        Halls.rigIs("tick 49: age 19", hall, 0, Halls.EMPTY, -1, 0, 0);
        hall.tick(1);
        Halls.rigIs("tick 50: age 20", hall, 0, Halls.COMING, 1, 0, 0);
    }

    /** A hall where a read waits in vain, so that a scrub has to be due. */
    private static TapeHall withScrub(int due) {
        TapeHall hall = Halls.sideBySide(3);
        hall.settings(10000, 10000);
        hall.ask(Halls.READ, 2, 0, 0);
        hall.ask(Halls.SCRUB, 1, due, 0);
        return hall;
    }

    /** Part 2, CHOSEN: "or it is due by T + 100". */
    private static void scrubDueByHundred() {
        Due.same("tick 0, due by 99", Halls.comesFirst(withScrub(99)), 1);
        Due.same("tick 0, due by 100", Halls.comesFirst(withScrub(100)), 1);
        TapeHall hall = withScrub(101);
        Due.same("tick 0, due by 101", Halls.comesFirst(hall), -1);
        Due.same("tick 1, due by 101", Halls.comesFirst(hall), 1);
        hall = withScrub(107);
        hall.tick(6);
        Due.same("tick 6, due by 107", Halls.comesFirst(hall), -1);
        Due.same("tick 7, due by 107", Halls.comesFirst(hall), 1);
    }

    /** Part 2, CHOSEN: "due by T + 100": one that was due long ago is that, too. */
    private static void scrubOverdue() {
        Due.same("tick 0, due by 0", Halls.comesFirst(withScrub(0)), 1);
        TapeHall hall = Halls.sideBySide(3);
        hall.settings(10000, 10000);
        hall.ask(Halls.READ, 2, 0, 0);
        Halls.ticks(hall, 500);
        hall.ask(Halls.SCRUB, 1, 0, 0);
        Due.same("tick 500, due by 0", Halls.comesFirst(hall), 1);
    }

    /** Part 2, CHOSEN: "if no other KIND of ASK WAITS anywhere, or it is due": due as late as can be. */
    private static void scrubDueFarOff() {
        TapeHall hall = withScrub(Halls.GREATEST);
        hall.tick(400);
        Halls.rigIs("another kind waits", hall, 0, Halls.EMPTY, -1, 0, 0);
        hall = Halls.sideBySide(3);
        hall.settings(10000, 10000);
        hall.ask(Halls.SCRUB, 1, Halls.GREATEST, 0);
        Due.same("no other kind waits", Halls.comesFirst(hall), 1);
    }

    /** Part 2, CHOSEN: "the one due first, of like ones the first by number". */
    private static void likeScrubs() {
        for (int less = 0; less <= 1; less++) {
            TapeHall hall = Halls.sideBySide(3);
            hall.ask(Halls.SCRUB, 1, 4000, 0);
            hall.ask(Halls.SCRUB, 2, 4000, 0);
            hall.ask(Halls.SCRUB, 0, 4000 - less, 0);
            Due.same("due first by " + less, Halls.comesFirst(hall), 1 - less);
        }
    }

    /** Part 2, CHOSEN: "of the SCRUBS of these TAPES that WAIT", those at HOME that no JOB has. */
    private static void scrubOfTheseTapes() {
        TapeHall hall = Halls.sideBySide(2);
        hall.reader(1);
        hall.ask(Halls.SCRUB, 0, 10, 0);
        hall.tick(5);
        Halls.rigIs("one is at work", hall, 0, Halls.BUSY, 0, 1, 2);
        hall.ask(Halls.SCRUB, 0, 5, 0);
        hall.tick(3);
        Halls.rigIs("its tape does not come twice", hall, 1, Halls.EMPTY, -1, 0, 0);
        hall.ask(Halls.SCRUB, 1, 500, 0);
        hall.tick(1);
        Halls.rigIs("that of the other one comes", hall, 1, Halls.COMING, 1, 0, 0);
    }

    /** Part 2, CHOSEN: "of TAPES at HOME that no JOB has": all of 150 asks are overdue, and their tape is away. */
    private static void boundOfTapesAway() {
        TapeHall hall = Halls.sideBySide(2);
        hall.reader(3);
        hall.settings(-1000, 0);
        for (int k = 0; k < 150; k++) {
            hall.ask(Halls.SPAN, 0, 0, 39);
        }
        hall.tick(4);
        Halls.rigIs("eight are at work", hall, 0, Halls.BUSY, 0, 8, 1);
        Due.same("the others wait", hall.tapeOf(0, 5), 142);
        hall.tick(100);
        Halls.rigIs("nothing comes", hall, 1, Halls.EMPTY, -1, 0, 0);
    }
}
