/** Promises 6, 7, 8, 14, 15, 21: ticks, arms, readers, which tape is chosen, what is counted. */
final class HallTest {
    public static void main(String[] args) {
        oneJob();
        twoArms();
        spansThatTouch();
        spansThatTouchFromTheLeft();
        pushed();
        workOfAReader();
        turnsAtWork();
        greatestWorth();
        worthOfDistance();
        boundOfFreeTapesAlone();
        scrubsWhenNothingElseWaits();
        scrubsBelowThreshold();
        firstEmptyReader();
        readersInOrder();
        breaksAtWork();
        breaksAndMends();
        mendsAheadOfTheArm();
        counts();
        Due.close();
    }

    /** Tick by tick: a tape at 2, a reader at 4, a read of place 1. */
    private static void oneJob() {
        TapeHall hall = new TapeHall();
        hall.tape(2, 0, 5);
        hall.reader(4);
        hall.ask(Halls.READ, 0, 1, 0);
        hall.tick(1);
        Halls.armIs("tick 0: a job", hall, 0, -1, 1, 0, 4);
        Halls.rigIs("tick 0", hall, 0, 1, 0, 0, 0);
        Due.same("still at home", hall.tapeOf(0, 4), 0);
        hall.tick(3);
        Halls.armIs("tick 3: there", hall, 0, 2, 1, 0, 4);
        hall.tick(1);
        Halls.armIs("tick 4: taken", hall, 0, 2, 2, 0, 4);
        Due.same("with the arm", hall.tapeOf(0, 4), 1);
        hall.tick(2);
        Halls.armIs("tick 6: at the reader", hall, 0, 4, 2, 0, 4);
        Halls.rigIs("tick 6: still coming", hall, 0, 1, 0, 0, 0);
        Due.same("still waits", hall.askOf(0, 2), 0);
        hall.tick(1);
        Halls.armIs("tick 7: put", hall, 0, 4, 0, -1, -1);
        Halls.rigIs("tick 7: its first tick is done", hall, 0, 2, 0, 1, 1);
        Due.same("at work", hall.askOf(0, 2), 1);
        Due.same("in the reader", hall.tapeOf(0, 4), 2);
        Due.same("tick 8: done", hall.tick(1), 1);
        Halls.rigIs("tick 8: over", hall, 0, 3, 0, 0, 0);
        Halls.armIs("tick 8: to bring it home", hall, 0, 4, 1, 0, 2);
        Due.same("done in", hall.askOf(0, 4), 8);
        hall.tick(1);
        Halls.armIs("tick 9: taken", hall, 0, 4, 2, 0, 2);
        Halls.rigIs("tick 9: empty", hall, 0, 0, -1, 0, 0);
        Due.same("with the arm again", hall.tapeOf(0, 4), 1);
        hall.tick(3);
        Halls.armIs("tick 12: put at home", hall, 0, 2, 0, -1, -1);
        Due.same("home", hall.tapeOf(0, 4), 0);
        Due.same("places gone", hall.count(11), 3 + 2 + 2);
        Halls.armIs("the other arm has not stirred", hall, 1, 40, 0, -1, -1);
    }

    private static void twoArms() {
        TapeHall hall = twoArmsAtWork(35);
        Halls.rigIs("arm 0's", hall, 0, 1, 0, 0, 0);
        Halls.rigIs("arm 1's", hall, 1, 1, 1, 0, 0);
        Halls.armIs("arm 0", hall, 0, -1, 1, 0, 10);
        Halls.armIs("arm 1", hall, 1, 40, 1, 1, 30);
        Due.same("ticks 1 to 11", hall.tick(11), 0);
        Due.same("tick 12, by arm 1", hall.tick(1), 1);
        Due.same("tick 13, by arm 0", hall.tick(1), 1);
        Due.same("home again", hall.tick(11), 0);
        Halls.armIs("arm 0", hall, 0, 2, 0, -1, -1);
        Halls.armIs("arm 1", hall, 1, 35, 0, -1, -1);
        Due.same("ended in", hall.askOf(0, 4), 13);
        Due.same("ended in", hall.askOf(1, 4), 12);
        Due.same("places gone", hall.count(11), 3 + 8 + 8 + 5 + 5 + 5);
        Due.same("ages", hall.count(8), 25);
        Due.same("greatest age", hall.count(9), 13);
    }

    /** A tape at 2 for the reader at 10, another one at a home for the reader at 30, after tick 0. */
    private static TapeHall twoArmsAtWork(int home) {
        TapeHall hall = new TapeHall();
        hall.settings(-1000, 1000);
        hall.tape(2, 2, 5);
        hall.tape(home, 2, 5);
        hall.reader(10);
        hall.reader(30);
        hall.ask(Halls.URGENT, 0, 0, 0);
        hall.ask(Halls.READ, 1, 0, 0);
        Due.same("tick 0", hall.tick(1), 0);
        return hall;
    }

    private static void spansThatTouch() {
        Halls.armIs("at 11 it may", twoArmsAtWork(11), 1, 40, 1, 1, 30);
        TapeHall hall = twoArmsAtWork(10);
        Halls.armIs("at 10 it may not", hall, 1, 40, 0, -1, -1);
        Halls.rigIs("its reader is empty", hall, 1, 0, -1, 0, 0);
        // Arm 0 ends its job in tick 13 and is the first to seek one, for the reader that is over.
        hall.tick(12);
        Halls.armIs("still not", hall, 1, 40, 0, -1, -1);
        hall.tick(1);
        Halls.armIs("arm 0 clears", hall, 0, 10, 1, 0, 2);
        Halls.armIs("arm 1 still may not", hall, 1, 40, 0, -1, -1);
        // Taken in tick 14, gone in tick 15: arm 0 reaches to 9.
        hall.tick(1);
        Halls.armIs("till arm 0 has left", hall, 1, 40, 0, -1, -1);
        hall.tick(1);
        Halls.armIs("arm 0 has left", hall, 0, 9, 2, 0, 2);
        // The first empty reader is the one at 10 by now, and the tape's home is there.
        Halls.armIs("arm 1 may", hall, 1, 40, 1, 1, 10);
    }

    /** Arm 1 is on its way from 35 to the reader at 12; arm 0 would fetch a tape for the one at 4. */
    private static void spansThatTouchFromTheLeft() {
        for (int home = 11; home <= 12; home++) {
            TapeHall hall = new TapeHall();
            hall.settings(-1000, 1000);
            hall.tape(2, 2, 5);
            hall.tape(35, 2, 5);
            hall.tape(home, 2, 5);
            hall.reader(4);
            hall.reader(12);
            hall.ask(Halls.URGENT, 0, 0, 0);
            hall.ask(Halls.READ, 1, 0, 0);
            hall.tick(11);
            hall.ask(Halls.READ, 2, 0, 0);
            hall.tick(1);
            // Tick 11: arm 0 has put tape 0 at its home.
            Due.same("home again", hall.tapeOf(0, 4), 0);
            Halls.armIs("arm 1", hall, 1, 30, 2, 1, 12);
            if (home == 11) {
                Halls.armIs("to 11 it may", hall, 0, 2, 1, 2, 4);
            } else {
                Halls.armIs("to 12 it may not", hall, 0, 2, 0, -1, -1);
                // Arm 1 puts in tick 30 and has no job then: arm 0 is the first to clear the reader.
                hall.tick(18);
                Halls.armIs("tick 29", hall, 0, 2, 0, -1, -1);
                hall.tick(1);
                Halls.armIs("tick 30", hall, 0, 2, 1, 1, 35);
            }
        }
    }

    /** Arm 1 rests at 35; arm 0 goes to the reader at 39 and drives it ahead. */
    private static void pushed() {
        TapeHall hall = twoArmsAtWork(35);
        hall.tick(40);
        Due.same("places gone", hall.count(11), 34);
        Due.yes("breaks", hall.breaks(0));
        Due.yes("breaks", hall.breaks(1));
        hall.reader(39);
        hall.ask(Halls.READ, 0, 0, 0);
        hall.tick(2);
        Halls.armIs("taken where it stands", hall, 0, 2, 2, 0, 39);
        hall.tick(32);
        Halls.armIs("beside it", hall, 0, 34, 2, 0, 39);
        Halls.armIs("rests", hall, 1, 35, 0, -1, -1);
        hall.tick(1);
        Halls.armIs("goes", hall, 0, 35, 2, 0, 39);
        Halls.armIs("is pushed", hall, 1, 36, 0, -1, -1);
        hall.tick(4);
        Halls.armIs("is there", hall, 0, 39, 2, 0, 39);
        Halls.armIs("at the end", hall, 1, 40, 0, -1, -1);
        Due.same("pushed ones, too", hall.count(11), 34 + 37 + 5);
    }

    /** A hall with a reader at 0 and so many tapes from home 0 on, of 40 places. */
    private static TapeHall tapes(int many) {
        TapeHall hall = new TapeHall();
        for (int t = 0; t < many; t++) {
            hall.tape(t, 3, 40);
        }
        hall.reader(0);
        return hall;
    }

    private static void workOfAReader() {
        TapeHall hall = tapes(1);
        hall.ask(Halls.READ, 0, 5, 0);
        hall.ask(Halls.SPAN, 0, 2, 4);
        hall.ask(Halls.READ, 0, 1, 0);
        // Job in tick 0, there in 1, taken in 2, put in 3: 1 takes 3 to 4, the span 5 to 8, 5 takes 9, 10.
        hall.tick(4);
        Halls.rigIs("tick 3", hall, 0, 2, 0, 3, 1);
        Due.same("head", hall.tapeOf(0, 3), 0);
        Due.same("tick 4", hall.tick(1), 1);
        Halls.rigIs("tick 4", hall, 0, 2, 0, 2, 0);
        Due.same("the third by number was first", hall.askOf(2, 2), 2);
        Due.same("head", hall.tapeOf(0, 3), 1);
        hall.tick(3);
        Halls.rigIs("tick 7", hall, 0, 2, 0, 2, 3);
        Due.same("head as behind the last one done", hall.tapeOf(0, 3), 1);
        Due.same("tick 8", hall.tick(1), 1);
        Due.same("head", hall.tapeOf(0, 3), 4);
        Due.same("ticks 9 and 10", hall.tick(2), 1);
        Halls.rigIs("tick 10", hall, 0, 3, 0, 0, 0);
        Due.same("done in", hall.askOf(0, 4), 10);
        // An ask that comes while its tape is at work waits for the next time.
        hall = tapes(1);
        hall.ask(Halls.READ, 0, 5, 0);
        hall.tick(5);
        hall.ask(Halls.READ, 0, 5, 0);
        Halls.rigIs("one at work", hall, 0, 2, 0, 1, 2);
        Due.same("one waits", hall.tapeOf(0, 5), 1);
        // Over in tick 8, home in tick 10, put again in tick 12, where the head is at 5 already.
        Due.same("done", hall.tick(7), 1);
        Due.same("brought again", hall.tick(1), 1);
    }

    private static void turnsAtWork() {
        TapeHall hall = tapes(1);
        hall.ask(Halls.READ, 0, 20, 0);
        // Put in tick 3, done in tick 23, home in tick 25.
        Due.same("the head is at 20", hall.tick(26), 1);
        hall.ask(Halls.READ, 0, 15, 0);
        hall.ask(Halls.READ, 0, 25, 0);
        // Put in tick 28: 6 ticks down, then 2 for the turn, 10 and 1; home in tick 48.
        Due.same("down and up", hall.tick(23), 2);
        Due.same("down", hall.askOf(1, 4), 33);
        Due.same("up", hall.askOf(2, 4), 46);
        hall.ask(Halls.READ, 0, 20, 0);
        hall.tick(20);
        // Put in tick 51: the way up is forgotten, so no turn is paid.
        Due.same("down anew", hall.askOf(3, 4), 56);
    }

    private static void greatestWorth() {
        TapeHall hall = tapes(3);
        hall.ask(Halls.READ, 0, 0, 0);
        hall.ask(Halls.READ, 2, 0, 0);
        hall.ask(Halls.READ, 2, 0, 0);
        Due.same("two asks are worth more", Halls.comesFirst(hall), 2);
        hall = tapes(3);
        hall.ask(Halls.READ, 0, 0, 0);
        hall.ask(Halls.READ, 0, 0, 0);
        hall.ask(Halls.URGENT, 2, 0, 0);
        Due.same("an urgent one is worth more", Halls.comesFirst(hall), 2);
        hall = tapes(3);
        hall.ask(Halls.READ, 1, 0, 0);
        hall.ask(Halls.SCRUB, 2, 50, 0);
        hall.ask(Halls.SCRUB, 2, 50, 0);
        Due.same("scrubs are worth nothing", Halls.comesFirst(hall), 1);
        // Of nine that wait all count, not those alone that go into the order.
        hall = tapes(2);
        for (int k = 0; k < 10; k++) {
            hall.ask(Halls.READ, 1, 0, 0);
        }
        for (int k = 0; k < 9; k++) {
            hall.ask(Halls.READ, 0, 0, 0);
        }
        Due.same("ten asks are worth more than nine", Halls.comesFirst(hall), 1);
    }

    private static void worthOfDistance() {
        TapeHall hall = new TapeHall();
        hall.settings(-1000, 1000);
        hall.tape(13, 0, 5);
        hall.tape(27, 0, 5);
        hall.reader(20);
        hall.ask(Halls.READ, 0, 0, 0);
        hall.ask(Halls.READ, 1, 0, 0);
        Due.same("as far off: the lesser number", Halls.comesFirst(hall), 0);
        hall = new TapeHall();
        hall.settings(-1000, 1000);
        hall.tape(13, 0, 5);
        hall.tape(26, 0, 5);
        hall.reader(20);
        hall.ask(Halls.READ, 0, 0, 0);
        hall.ask(Halls.READ, 1, 0, 0);
        Due.same("nearer", Halls.comesFirst(hall), 1);
    }

    private static void boundOfFreeTapesAlone() {
        TapeHall hall = new TapeHall();
        hall.settings(-1000, 0);
        hall.tape(0, 0, 60);
        hall.tape(1, 0, 60);
        hall.reader(0);
        hall.reader(2);
        hall.ask(Halls.READ, 0, 59, 0);
        hall.tick(5);
        Halls.rigIs("the first is at work", hall, 0, 2, 0, 1, 2);
        hall.ask(Halls.READ, 0, 5, 0);
        hall.ask(Halls.READ, 1, 5, 0);
        hall.tick(1);
        Halls.rigIs("its tape is not at home: the other one", hall, 1, 1, 1, 0, 0);
    }

    private static void scrubsWhenNothingElseWaits() {
        TapeHall hall = tapes(3);
        hall.ask(Halls.SCRUB, 1, 5000, 0);
        hall.ask(Halls.SCRUB, 2, 4000, 0);
        hall.ask(Halls.SCRUB, 0, 4000, 0);
        Due.same("the one due first, of like ones the first by number", Halls.comesFirst(hall), 2);
        hall = tapes(1);
        hall.ask(Halls.SCRUB, 0, 5000, 0);
        Due.same("one alone", Halls.comesFirst(hall), 0);
        // In reach of nobody, yet it waits: a read of a tape whose worth is below the threshold.
        hall = tapes(3);
        hall.settings(100, 1000);
        hall.ask(Halls.SCRUB, 1, 5000, 0);
        hall.ask(Halls.READ, 2, 0, 0);
        hall.tick(10);
        Halls.rigIs("another kind waits", hall, 0, 0, -1, 0, 0);
        // A read at work does not wait.
        hall = tapes(3);
        hall.reader(1);
        hall.ask(Halls.READ, 0, 39, 0);
        hall.ask(Halls.SCRUB, 1, 5000, 0);
        hall.tick(2);
        Halls.rigIs("another kind still waits", hall, 1, 0, -1, 0, 0);
        hall.tick(2);
        Halls.rigIs("it is at work", hall, 0, 2, 0, 1, 1);
        Halls.rigIs("none other waits", hall, 1, 1, 1, 0, 0);
        // One that waits on a tape in a reader waits, too.
        hall = tapes(3);
        hall.reader(1);
        hall.ask(Halls.READ, 0, 39, 0);
        hall.tick(4);
        hall.ask(Halls.READ, 0, 39, 0);
        hall.ask(Halls.SCRUB, 1, 5000, 0);
        hall.tick(5);
        Halls.rigIs("anywhere", hall, 1, 0, -1, 0, 0);
    }

    private static void scrubsBelowThreshold() {
        TapeHall hall = tapes(3);
        hall.ask(Halls.READ, 2, 0, 0);
        hall.ask(Halls.SCRUB, 1, 0, 0);
        Due.same("worth goes ahead of a scrub that is due", Halls.comesFirst(hall), 2);
        hall = tapes(3);
        hall.settings(7, 1000);
        hall.ask(Halls.READ, 2, 0, 0);
        hall.ask(Halls.SCRUB, 1, 0, 0);
        Due.same("below the threshold the scrub goes", Halls.comesFirst(hall), 1);
    }

    private static void firstEmptyReader() {
        TapeHall hall = new TapeHall();
        hall.settings(-1000, 1000);
        hall.tape(5, 0, 5);
        hall.reader(30);
        hall.reader(6);
        hall.ask(Halls.READ, 0, 0, 0);
        hall.tick(1);
        Halls.armIs("the first, not the nearest", hall, 0, -1, 1, 0, 30);
        hall = new TapeHall();
        hall.settings(-1000, 1000);
        hall.tape(5, 0, 5);
        hall.reader(30);
        hall.reader(6);
        hall.breaks(0);
        hall.ask(Halls.READ, 0, 0, 0);
        hall.tick(1);
        Halls.armIs("a broken one is not empty", hall, 0, -1, 1, 0, 6);
    }

    /** Both readers are over when arm 0 seeks; arm 1 does what arm 0 leaves. */
    private static void readersInOrder() {
        TapeHall hall = new TapeHall();
        hall.settings(-1000, 1000);
        hall.tape(2, 0, 5);
        hall.tape(38, 0, 5);
        hall.reader(10);
        hall.reader(31);
        hall.ask(Halls.URGENT, 0, 0, 0);
        hall.ask(Halls.READ, 1, 0, 0);
        // Arm 1: there in tick 2, taken in 3, 7 places, put and done in tick 11; home again in tick 20.
        hall.tick(12);
        Halls.rigIs("tick 11", hall, 1, 3, 1, 0, 0);
        Halls.armIs("arm 1 clears it", hall, 1, 31, 1, 1, 38);
        Halls.armIs("arm 0 has its own job", hall, 0, 9, 2, 0, 10);
        hall.tick(2);
        Halls.armIs("tick 13: arm 0 clears its own", hall, 0, 10, 1, 0, 2);
        // Clearing goes ahead of bringing; what arm 0 leaves is arm 1's.
        hall = tapes(2);
        hall.ask(Halls.READ, 0, 0, 0);
        hall.tick(3);
        hall.reader(1);
        hall.ask(Halls.URGENT, 1, 0, 0);
        hall.tick(1);
        Halls.rigIs("over", hall, 0, 3, 0, 0, 0);
        Halls.armIs("clears first", hall, 0, 0, 1, 0, 0);
        Halls.armIs("brings", hall, 1, 40, 1, 1, 1);
        Halls.rigIs("brought", hall, 1, 1, 1, 0, 0);
    }

    private static void breaksAtWork() {
        TapeHall hall = tapes(1);
        hall.ask(Halls.READ, 0, 5, 0);
        hall.ask(Halls.READ, 0, 10, 0);
        hall.ask(Halls.READ, 0, 15, 0);
        // Put in tick 3; 5 done in tick 8, 10 in tick 14.
        Due.same("the first is done", hall.tick(12), 1);
        Halls.rigIs("at work", hall, 0, 2, 0, 2, 3);
        Due.yes("breaks", hall.breaks(0));
        Halls.rigIs("broken, with its tape", hall, 0, 4, 0, 0, 0);
        Due.same("done stays done", hall.askOf(0, 2), 2);
        Due.same("waits again", hall.askOf(1, 2), 0);
        Due.same("waits again", hall.askOf(2, 2), 0);
        Due.same("of its tick", hall.askOf(1, 3), 0);
        Due.same("two wait", hall.tapeOf(0, 5), 2);
        Due.same("worth of these", hall.tapeOf(0, 6), 2 * 10 + 2 * 12);
        Due.same("head as behind the one done", hall.tapeOf(0, 3), 5);
        Due.same("in the reader still", hall.tapeOf(0, 4), 2);
        Due.same("order from there", hall.order(0, 0), 1);
        Due.same("cost from there", hall.told(0, 0), 12);
        Due.no("breaks again", hall.breaks(0));
        hall.tick(1);
        Halls.armIs("to bring it home", hall, 0, 0, 1, 0, 0);
        hall.tick(1);
        Halls.rigIs("stays broken, without a tape", hall, 0, 4, -1, 0, 0);
        hall.tick(1);
        Due.same("home", hall.tapeOf(0, 4), 0);
        hall.tick(50);
        Halls.rigIs("nothing comes", hall, 0, 4, -1, 0, 0);
        Due.yes("mends", hall.mends(0));
        Halls.rigIs("empty", hall, 0, 0, -1, 0, 0);
        Due.no("mends again", hall.mends(0));
        Due.same("the others", hall.tick(30), 2);
        Due.same("by the ticks told", hall.askOf(2, 4) - hall.askOf(1, 4), 6);
    }

    private static void breaksAndMends() {
        TapeHall hall = tapes(1);
        Due.no("not broken", hall.mends(0));
        Due.yes("an empty one breaks", hall.breaks(0));
        Due.no("breaks again", hall.breaks(0));
        hall.ask(Halls.READ, 0, 0, 0);
        hall.tick(10);
        Halls.rigIs("nothing comes", hall, 0, 4, -1, 0, 0);
        Due.yes("mends", hall.mends(0));
        // The job, there, taken, put: the read is done in the tick in which it is put.
        hall.tick(4);
        Halls.rigIs("over", hall, 0, 3, 0, 0, 0);
        Due.yes("one that is over breaks", hall.breaks(0));
        Halls.rigIs("broken", hall, 0, 4, 0, 0, 0);
        Due.same("done stays done", hall.askOf(0, 2), 2);
        hall.tick(1);
        Halls.rigIs("its tape is fetched", hall, 0, 4, -1, 0, 0);
    }

    private static void mendsAheadOfTheArm() {
        TapeHall hall = tapes(1);
        hall.ask(Halls.READ, 0, 30, 0);
        hall.tick(6);
        hall.breaks(0);
        Due.yes("mends", hall.mends(0));
        Halls.rigIs("over, not at work again", hall, 0, 3, 0, 0, 0);
        Due.same("waits", hall.askOf(0, 2), 0);
        hall.tick(1);
        Halls.rigIs("still over", hall, 0, 3, 0, 0, 0);
        hall.tick(1);
        Halls.rigIs("taken", hall, 0, 0, -1, 0, 0);
        Due.same("brought again", hall.tick(40), 1);
        Due.same("mends empty", hall.mends(0) ? 1 : 0, 0);
    }

    private static void counts() {
        TapeHall hall = tapes(2);
        hall.tape(5, 4, 3);
        hall.ask(Halls.READ, 0, 0, 0);
        hall.ask(Halls.READ, 1, 9, 0);
        hall.tick(3);
        hall.ask(Halls.READ, 2, 2, 0);
        hall.item(3, 3);
        long[] due = {3, 1, 3, 3, 3, 0, 0, 0, 0, 0, 1, 1};
        for (int what = 0; what < due.length; what++) {
            Due.same("count " + what, hall.count(what), due[what]);
        }
        // The first is done in tick 3 with age 3.
        hall.tick(1);
        Due.same("done", hall.count(6), 1);
        Due.same("sum of ages", hall.count(8), 3);
        Due.same("all", hall.tick(80), 2);
        Due.same("done", hall.count(6), 2);
        Due.same("failed", hall.count(7), 1);
        long sum = hall.askOf(0, 4) + hall.askOf(1, 4) + hall.askOf(2, 4) - 3;
        Due.same("sum of ages", hall.count(8), sum);
        Due.same("greatest age", hall.count(9), Math.max(hall.askOf(1, 4), hall.askOf(2, 4) - 3));
    }
}
