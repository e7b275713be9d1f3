/**
 * What the document says at the edges of promises 6, 8, 9, 14, 15 and 21: ticks, the work of READERS, how
 * they break and are mended, what is counted. Above each test stands the sentence that it would see broken.
 */
final class HallEdgesTest {
    public static void main(String[] args) {
        ticks();
        ticksOfEndedAsks();
        othersOfReaders();
        readerWithoutTape();
        othersOfTapes();
        othersOfCounts();
        lastTickOfCost();
        overBehindTheLast();
        asksTillItIsPut();
        breaksOfOthers();
        breaksInEachState();
        breaksInTheLastTick();
        brokenTillTaken();
        mendsOfOthers();
        mendsInEachState();
        ageOfZero();
        greatestAgeStays();
        Due.close();
    }

    /** 6: "So many TICKS (1 to 400)"; "NONE: another n." */
    private static void ticks() {
        TapeHall hall = Halls.together(Halls.LONGS, 5);
        hall.ask(Halls.READ, 0, 0, 0);
        int[] refused = {0, -1, 401, 402, Halls.LEAST, Halls.GREATEST};
        for (int n : refused) {
            Due.same("tick " + n, hall.tick(n), -1);
            Due.same("tick at hand", hall.count(3), 0);
            Halls.rigIs("nothing has come", hall, 0, Halls.EMPTY, -1, 0, 0);
        }
        Due.same("one", hall.tick(1), 0);
        Due.same("one tick", hall.count(3), 1);
        Due.same("the most", hall.tick(400), 1);
        Due.same("all of them", hall.count(3), 401);
    }

    /** 6: "how many ASKS were DONE or FAILED in them": none, one in the last of them, and no more than in them. */
    private static void ticksOfEndedAsks() {
        int[] kinds = {Halls.LONGS, Halls.MISSING};
        for (int kind : kinds) {
            TapeHall hall = Halls.together(kind, 5);
            hall.ask(Halls.READ, 0, 0, 0);
            hall.ask(Halls.READ, 0, 0, 0);
            Due.same("ticks 0 to 2", hall.tick(3), 0);
            Due.same("tick 3", hall.tick(1), 1);
            Due.same("tick 4", hall.tick(1), 1);
            Due.same("tick 5", hall.tick(1), 0);
            hall = Halls.together(kind, 5);
            Halls.ask(hall, Halls.READ, 0, 2);
            Due.same("ticks 0 to 3", hall.tick(4), 1);
            hall = Halls.together(kind, 5);
            Halls.ask(hall, Halls.READ, 0, 2);
            Due.same("ticks 0 to 4", hall.tick(5), 2);
        }
    }

    /** 8: "NONE for others." */
    private static void othersOfReaders() {
        TapeHall hall = new TapeHall();
        int[] refused = {-1, 3, 4, Halls.LEAST, Halls.GREATEST};
        for (int readers = 0; readers <= 3; readers++) {
            Due.same("behind the last of " + readers, hall.rig(readers, 0), -1);
            Halls.rigIs("behind the last", hall, readers, -1, -1, -1, -1);
            for (int k : refused) {
                Halls.rigIs("no such reader " + k, hall, k, -1, -1, -1, -1);
            }
            if (readers < 3) {
                hall.reader(5 + readers);
                Due.same("the last", hall.rig(readers, 0), 5 + readers);
            }
        }
        int[] whats = {-1, 5, 6, Halls.LEAST, Halls.GREATEST};
        for (int what : whats) {
            Due.same("what " + what, hall.rig(0, what), -1);
        }
    }

    /** 8: "1 (0 EMPTY ..), 2 its TAPE (NONE ..), 3 ASKS AT WORK there, 4 ticks done of the first", of a new one. */
    private static void readerWithoutTape() {
        TapeHall hall = new TapeHall();
        hall.reader(0);
        Halls.rigIs("new", hall, 0, Halls.EMPTY, -1, 0, 0);
    }

    /** 9: "NONE for others." */
    private static void othersOfTapes() {
        TapeHall hall = new TapeHall();
        int[] refused = {-1, 12, 13, Halls.LEAST, Halls.GREATEST};
        for (int tapes = 0; tapes <= 12; tapes++) {
            for (int what = 0; what <= 6; what++) {
                Due.same("behind the last of " + tapes, hall.tapeOf(tapes, what), -1);
            }
            for (int t : refused) {
                Due.same("no such tape " + t, hall.tapeOf(t, 0), -1);
            }
            if (tapes < 12) {
                hall.tape(20 + tapes, Halls.LONGS, 5);
                Due.same("the last", hall.tapeOf(tapes, 0), 20 + tapes);
            }
        }
        int[] whats = {-1, 7, 8, Halls.LEAST, Halls.GREATEST};
        for (int what : whats) {
            Due.same("what " + what, hall.tapeOf(0, what), -1);
        }
        Due.same("the last what, no asks", hall.tapeOf(11, 6), -62);
    }

    /** 21: "NONE for others." */
    private static void othersOfCounts() {
        TapeHall hall = Halls.together(Halls.LONGS, 5);
        int[] whats = {-1, 12, 13, Halls.LEAST, Halls.GREATEST};
        for (int what : whats) {
            Due.same("what " + what, hall.count(what), -1);
        }
        Due.same("the first what", hall.count(0), 1);
        Due.same("the last what", hall.count(11), 0);
    }

    /** Part 2: "if that was the last one of its COST it is DONE (or FAILED) in TICK T". */
    private static void lastTickOfCost() {
        int[] kinds = {Halls.LONGS, Halls.MISSING};
        int[] states = {Halls.DONE, Halls.FAILED};
        for (int i = 0; i < 2; i++) {
            TapeHall hall = Halls.together(kinds[i], 10);
            hall.ask(Halls.READ, 0, 5, 0);
            // Put in tick 3, a cost of 6.
            Due.same("ticks 0 to 7", hall.tick(8), 0);
            Halls.rigIs("the last but one", hall, 0, Halls.BUSY, 0, 1, 5);
            Due.same("at work", hall.askOf(0, 2), Halls.AT_WORK);
            Due.same("head", hall.tapeOf(0, 3), 0);
            Due.same("tick 8", hall.tick(1), 1);
            Due.same("ended", hall.askOf(0, 2), states[i]);
            Due.same("in tick 8", hall.askOf(0, 4), 8);
            Due.same("head", hall.tapeOf(0, 3), 5);
        }
    }

    /** Part 2: "behind the last ASK the READER is OVER", and not behind the last but one. */
    private static void overBehindTheLast() {
        TapeHall hall = Halls.together(Halls.LONGS, 10);
        hall.ask(Halls.READ, 0, 0, 0);
        hall.ask(Halls.READ, 0, 1, 0);
        hall.tick(4);
        Halls.rigIs("tick 3: one of two", hall, 0, Halls.BUSY, 0, 1, 0);
        hall.tick(1);
        Halls.rigIs("tick 4: winds to the other", hall, 0, Halls.BUSY, 0, 1, 1);
        hall.tick(1);
        Halls.rigIs("tick 5: both", hall, 0, Halls.OVER, 0, 0, 0);
    }

    /** Part 2: "the ASKS of the TAPE's ORDER are AT WORK": up to the tick in which it is put. */
    private static void asksTillItIsPut() {
        TapeHall hall = Halls.together(Halls.LONGS, 10);
        hall.ask(Halls.READ, 0, 9, 0);
        hall.tick(3);
        Due.same("ahead of tick 3", hall.ask(Halls.READ, 0, 9, 0), 1);
        hall.tick(1);
        Due.same("behind it", hall.ask(Halls.READ, 0, 9, 0), 2);
        Due.same("at work", hall.askOf(1, 2), Halls.AT_WORK);
        Due.same("waits", hall.askOf(2, 2), Halls.WAITS);
        Halls.rigIs("two of three", hall, 0, Halls.BUSY, 0, 2, 1);
    }

    /** 14: "False: no such one". */
    private static void breaksOfOthers() {
        int[] refused = {-1, 3, Halls.LEAST, Halls.GREATEST};
        TapeHall hall = new TapeHall();
        for (int readers = 0; readers < 3; readers++) {
            Due.no("behind the last of " + readers, hall.breaks(readers));
            hall.reader(readers);
            for (int k : refused) {
                Due.no("reader " + k, hall.breaks(k));
            }
        }
        for (int k = 0; k < 3; k++) {
            Due.same("not broken by these", hall.rig(k, 1), Halls.EMPTY);
            Due.yes("reader " + k, hall.breaks(k));
        }
    }

    /** 14: "False: .. COMING, or BROKEN already"; part 3: "One that is EMPTY or OVER can be broken, too". */
    private static void breaksInEachState() {
        TapeHall hall = Halls.together(Halls.LONGS, 5);
        Due.yes("empty", hall.breaks(0));
        Due.no("broken, without a tape", hall.breaks(0));
        Due.yes("mended", hall.mends(0));
        hall.ask(Halls.READ, 0, 1, 0);
        for (int tick = 0; tick <= 2; tick++) {
            hall.tick(1);
            Due.no("coming, tick " + tick, hall.breaks(0));
            Halls.rigIs("coming still", hall, 0, Halls.COMING, 0, 0, 0);
        }
        hall.tick(1);
        Halls.rigIs("busy", hall, 0, Halls.BUSY, 0, 1, 1);
        Due.yes("busy", hall.breaks(0));
        Halls.rigIs("broken", hall, 0, Halls.BROKEN, 0, 0, 0);
        Due.no("broken, with a tape", hall.breaks(0));
        Due.yes("mended", hall.mends(0));
        Halls.rigIs("over", hall, 0, Halls.OVER, 0, 0, 0);
        Due.yes("over", hall.breaks(0));
        Halls.rigIs("broken", hall, 0, Halls.BROKEN, 0, 0, 0);
    }

    /** Part 3: "its ASKS AT WORK WAIT again; HEAD is as behind the last one that is DONE": none is, by one tick. */
    private static void breaksInTheLastTick() {
        TapeHall hall = Halls.together(Halls.LONGS, 10);
        hall.ask(Halls.WRITE, 0, 5, 7);
        hall.tick(8);
        Halls.rigIs("a tick is to come", hall, 0, Halls.BUSY, 0, 1, 5);
        Due.yes("breaks", hall.breaks(0));
        Due.same("waits again", hall.askOf(0, 2), Halls.WAITS);
        Due.same("head", hall.tapeOf(0, 3), 0);
        Due.same("nothing is written", 0, hall.askOf(0, 5));
        Due.same("the whole cost is to come", hall.told(0, 0), 6);
        hall.mends(0);
        // A job in tick 8, taken, home in 10; a job, taken, put in 12.
        Due.same("ticks 8 to 16", hall.tick(9), 0);
        Due.same("tick 17", hall.tick(1), 1);
        Due.same("written", hall.cell(0, 5), 7);
    }

    /** Part 3: "It keeps its TAPE till an ARM takes that (.. a BROKEN one stays so)." */
    private static void brokenTillTaken() {
        TapeHall hall = Halls.together(Halls.LONGS, 10);
        hall.ask(Halls.READ, 0, 9, 0);
        hall.tick(5);
        hall.breaks(0);
        hall.tick(1);
        Halls.rigIs("a job", hall, 0, Halls.BROKEN, 0, 0, 0);
        Due.same("in the reader", hall.tapeOf(0, 4), 2);
        hall.tick(1);
        Halls.rigIs("taken", hall, 0, Halls.BROKEN, -1, 0, 0);
        Due.same("with the arm", hall.tapeOf(0, 4), 1);
        hall.tick(1);
        Due.same("home", hall.tapeOf(0, 4), 0);
        hall.tick(100);
        Halls.rigIs("for ever", hall, 0, Halls.BROKEN, -1, 0, 0);
        Due.same("the ask waits", hall.askOf(0, 2), Halls.WAITS);
    }

    /** 15: "False: no such one". */
    private static void mendsOfOthers() {
        int[] refused = {-1, 3, Halls.LEAST, Halls.GREATEST};
        TapeHall hall = new TapeHall();
        for (int readers = 0; readers < 3; readers++) {
            Due.no("behind the last of " + readers, hall.mends(readers));
            hall.reader(readers);
            hall.breaks(readers);
            for (int k : refused) {
                Due.no("reader " + k, hall.mends(k));
            }
        }
        for (int k = 0; k < 3; k++) {
            Due.same("not mended by these", hall.rig(k, 1), Halls.BROKEN);
            Due.yes("reader " + k, hall.mends(k));
        }
    }

    /** 15: "False: .. or it isn't BROKEN"; part 3: "MENDED: it is EMPTY, if it has no TAPE, else OVER." */
    private static void mendsInEachState() {
        TapeHall hall = Halls.together(Halls.LONGS, 5);
        Due.no("empty", hall.mends(0));
        hall.ask(Halls.READ, 0, 1, 0);
        hall.tick(1);
        Due.no("coming", hall.mends(0));
        Halls.rigIs("coming", hall, 0, Halls.COMING, 0, 0, 0);
        hall.tick(3);
        Due.no("busy", hall.mends(0));
        Halls.rigIs("busy", hall, 0, Halls.BUSY, 0, 1, 1);
        hall.tick(1);
        Due.no("over", hall.mends(0));
        Halls.rigIs("over", hall, 0, Halls.OVER, 0, 0, 0);
        hall.breaks(0);
        Due.yes("broken, with a tape", hall.mends(0));
        Halls.rigIs("over", hall, 0, Halls.OVER, 0, 0, 0);
        hall.breaks(0);
        hall.tick(1);
        Halls.rigIs("taken", hall, 0, Halls.BROKEN, -1, 0, 0);
        Due.yes("broken, without a tape", hall.mends(0));
        Halls.rigIs("empty", hall, 0, Halls.EMPTY, -1, 0, 0);
        Due.no("mended already", hall.mends(0));
    }

    /** 21: "8 the sum of AGES of those DONE or FAILED .. 9 the greatest of these (0)": of an age of 0. */
    private static void ageOfZero() {
        TapeHall hall = Halls.together(Halls.LONGS, 10);
        hall.ask(Halls.READ, 0, 1, 0);
        hall.tick(3);
        hall.ask(Halls.READ, 0, 0, 0);
        Due.same("tick 3", hall.tick(1), 1);
        Due.same("the later one is done at once", hall.askOf(1, 4), 3);
        Due.same("of tick", hall.askOf(1, 3), 3);
        Due.same("sum", hall.count(8), 0);
        Due.same("greatest", hall.count(9), 0);
        Due.same("ticks 4 and 5", hall.tick(2), 1);
        Due.same("sum of both", hall.count(8), 5);
        Due.same("greatest of both", hall.count(9), 5);
    }

    /** 21: "9 the greatest of these": not the latest, and not of those that wait. */
    private static void greatestAgeStays() {
        TapeHall hall = Halls.together(Halls.LONGS, 10);
        hall.ask(Halls.READ, 0, 9, 0);
        hall.tick(30);
        Due.same("put in tick 3, ten ticks", hall.count(9), 12);
        hall.ask(Halls.READ, 0, 9, 0);
        hall.tick(30);
        Due.same("put two ticks on", hall.askOf(1, 4) - hall.askOf(1, 3), 2);
        Due.same("the greatest is the first one's", hall.count(9), 12);
        Due.same("the sum is of both", hall.count(8), 14);
        hall.breaks(0);
        hall.ask(Halls.READ, 0, 0, 0);
        hall.tick(100);
        Due.same("one that waits counts for nothing", hall.count(9), 12);
    }
}
