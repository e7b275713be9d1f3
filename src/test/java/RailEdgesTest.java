/**
 * What the document says at the edges of promise 7 and of the RAIL: where ARMS stand, go, push one another
 * and MAY go. Above each test stands the sentence that it would see broken.
 */
final class RailEdgesTest {
    public static void main(String[] args) {
        othersOfArms();
        placesOfRestingArms();
        leastPlaces();
        greatestPlaces();
        pushedToTheEnd();
        besideIsNotPushed();
        mayBehindWhereItTakes();
        mayBehindWhereItPuts();
        mayBehindWhereItStands();
        mayFromWhereItStands();
        mayAheadOfWhereItTakes();
        mayAheadOfWhereItPuts();
        mayAheadOfWhereItStands();
        Due.close();
    }

    /** 7: "NONE for others." */
    private static void othersOfArms() {
        TapeHall hall = Halls.together(Halls.LONGS, 5);
        hall.ask(Halls.READ, 0, 0, 0);
        hall.tick(2);
        Halls.armIs("the arm that is there", hall, 0, 0, 1, 0, 0);
        int[] arms = {-1, 2, 3, Halls.LEAST, Halls.GREATEST};
        for (int k : arms) {
            Halls.armIs("no such arm", hall, k, -1, -1, -1, -1);
        }
        int[] whats = {-1, 4, 5, Halls.LEAST, Halls.GREATEST};
        for (int what : whats) {
            Due.same("arm 0 what " + what, hall.arm(0, what), -1);
            Due.same("arm 1 what " + what, hall.arm(1, what), -1);
        }
    }

    /** 7: "1 (0 without a JOB ..), 2 .. (NONE), 3 .. (NONE) .. (A place -1 is -1.)"; part 2: "ARM 1 at 40 at first". */
    private static void placesOfRestingArms() {
        TapeHall hall = new TapeHall();
        Halls.armIs("arm 0", hall, 0, -1, 0, -1, -1);
        Halls.armIs("arm 1", hall, 1, 40, 0, -1, -1);
    }

    /** Part 2: "at the place where it takes or puts next it does that": home, reader and arm at 0. */
    private static void leastPlaces() {
        TapeHall hall = Halls.together(Halls.LONGS, 10);
        hall.ask(Halls.READ, 0, 5, 0);
        hall.tick(1);
        Halls.armIs("tick 0", hall, 0, -1, 1, 0, 0);
        hall.tick(1);
        Halls.armIs("tick 1: there", hall, 0, 0, 1, 0, 0);
        hall.tick(1);
        Halls.armIs("tick 2: taken", hall, 0, 0, 2, 0, 0);
        Halls.rigIs("tick 2", hall, 0, Halls.COMING, 0, 0, 0);
        hall.tick(1);
        Halls.armIs("tick 3: put", hall, 0, 0, 0, -1, -1);
        Halls.rigIs("tick 3: its first tick", hall, 0, Halls.BUSY, 0, 1, 1);
        Due.same("ticks 4 to 8", hall.tick(5), 1);
        Halls.armIs("tick 8: a job", hall, 0, 0, 1, 0, 0);
        Halls.rigIs("tick 8", hall, 0, Halls.OVER, 0, 0, 0);
        hall.tick(1);
        Halls.armIs("tick 9: taken", hall, 0, 0, 2, 0, 0);
        Halls.rigIs("tick 9", hall, 0, Halls.EMPTY, -1, 0, 0);
        hall.tick(1);
        Halls.armIs("tick 10: home", hall, 0, 0, 0, -1, -1);
        Due.same("home", hall.tapeOf(0, 4), 0);
        Due.same("one place gone", hall.count(11), 1);
    }

    /** Part 2: "The RAIL has places -1 to 40": arm 0 comes to 39 and arm 1 stays at 40. */
    private static void greatestPlaces() {
        TapeHall hall = new TapeHall();
        hall.tape(39, Halls.LONGS, 10);
        hall.reader(39);
        hall.ask(Halls.READ, 0, 0, 0);
        hall.tick(41);
        Halls.armIs("tick 40: there", hall, 0, 39, 1, 0, 39);
        Halls.armIs("not pushed", hall, 1, 40, 0, -1, -1);
        Due.same("tick 41: taken", hall.tick(1), 0);
        Due.same("tick 42: put and done", hall.tick(1), 1);
        hall.tick(2);
        Due.same("tick 44: home", hall.tapeOf(0, 4), 0);
        Due.same("places gone", hall.count(11), 40);
    }

    /** Arm 1 has brought a tape home to 39 and rests there, arm 0 rests at 2; both have gone 19 places. */
    private static TapeHall armAt39() {
        TapeHall hall = new TapeHall();
        hall.settings(-1000, 1000);
        hall.tape(2, Halls.LONGS, 5);
        hall.tape(39, Halls.LONGS, 5);
        hall.reader(10);
        hall.reader(30);
        hall.ask(Halls.URGENT, 0, 0, 0);
        hall.ask(Halls.READ, 1, 0, 0);
        Due.same("both are done", hall.tick(24), 2);
        Halls.armIs("arm 0 rests", hall, 0, 2, 0, -1, -1);
        Halls.armIs("arm 1 rests", hall, 1, 39, 0, -1, -1);
        Due.same("places gone", hall.count(11), 38);
        hall.breaks(0);
        hall.breaks(1);
        return hall;
    }

    /** Part 2: "If the other ARM (without a JOB) is there, that one goes one place on in the same direction first." */
    private static void pushedToTheEnd() {
        TapeHall hall = armAt39();
        hall.reader(39);
        hall.ask(Halls.READ, 0, 0, 0);
        // A job, taken at once, 36 places.
        hall.tick(38);
        Halls.armIs("at 38", hall, 0, 38, 2, 0, 39);
        Halls.armIs("beside it", hall, 1, 39, 0, -1, -1);
        hall.tick(1);
        Halls.armIs("at 39", hall, 0, 39, 2, 0, 39);
        Halls.armIs("pushed to the end", hall, 1, 40, 0, -1, -1);
        Due.same("places gone (pushed ones, too)", hall.count(11), 38 + 37 + 1);
        Due.same("put and done", hall.tick(1), 1);
    }

    /** Part 2: "If the other ARM .. is there": one place behind it it is not. */
    private static void besideIsNotPushed() {
        TapeHall hall = armAt39();
        hall.reader(38);
        hall.ask(Halls.READ, 0, 0, 0);
        hall.tick(38);
        Halls.armIs("at 38", hall, 0, 38, 2, 0, 38);
        Due.same("put and done", hall.tick(1), 1);
        Halls.armIs("not pushed", hall, 1, 39, 0, -1, -1);
        Due.same("places gone", hall.count(11), 38 + 36);
    }

    /** Tapes of longs at these homes, readers at these slots; whatever an ask is worth, its tape is brought. */
    private static TapeHall hall(int[] homes, int... slots) {
        TapeHall hall = new TapeHall();
        hall.settings(-1000, 10000);
        for (int home : homes) {
            hall.tape(home, Halls.LONGS, 60);
        }
        for (int slot : slots) {
            hall.reader(slot);
        }
        return hall;
    }

    /**
     * Part 2: "or if all of SPAN .. is on its side of all of the other one's": the place where arm 0 takes is
     * its last one, at 10, and arm 1 puts at 10 or 11.
     */
    private static void mayBehindWhereItTakes() {
        for (int slot = 10; slot <= 11; slot++) {
            TapeHall hall = hall(new int[] {10, 35}, 4, slot);
            hall.ask(Halls.URGENT, 0, 0, 0);
            hall.ask(Halls.READ, 1, 0, 0);
            hall.tick(1);
            Halls.armIs("from 10 to 4", hall, 0, -1, 1, 0, 4);
            Due.same("from 35 to " + slot, hall.arm(1, 1), slot - 10);
        }
    }

    /** Part 2: the same, the place where arm 0 puts being its last one, and arm 1 takes at 10 or 11. */
    private static void mayBehindWhereItPuts() {
        for (int home = 10; home <= 11; home++) {
            TapeHall hall = hall(new int[] {4, home}, 10, 30);
            hall.ask(Halls.URGENT, 0, 0, 0);
            hall.ask(Halls.READ, 1, 0, 0);
            hall.tick(1);
            Halls.armIs("from 4 to 10", hall, 0, -1, 1, 0, 10);
            Due.same("from " + home + " to 30", hall.arm(1, 1), home - 10);
        }
    }

    /** Part 2: "SPAN (from the least to the greatest of its own place": arm 0 stands at 10 and goes down. */
    private static void mayBehindWhereItStands() {
        for (int slot = 10; slot <= 11; slot++) {
            TapeHall hall = hall(new int[] {10, 2, 35}, 4, slot);
            hall.ask(Halls.READ, 0, 0, 0);
            // At 10 in tick 11, put in tick 19 and done, home again in tick 27.
            Due.same("done", hall.tick(28), 1);
            Halls.armIs("rests at 10", hall, 0, 10, 0, -1, -1);
            hall.ask(Halls.URGENT, 1, 0, 0);
            hall.ask(Halls.READ, 2, 0, 0);
            hall.tick(1);
            Halls.armIs("from 10 by 2 to 4", hall, 0, 10, 1, 1, 4);
            Due.same("from 35 to " + slot, hall.arm(1, 1), slot - 10);
        }
    }

    /** Arm 0 rests at 0, arm 1 at 20, both have brought a tape home; tick 45 is at hand. */
    private static TapeHall armsAt0And20(TapeHall hall) {
        hall.ask(Halls.URGENT, 0, 0, 0);
        hall.ask(Halls.READ, 1, 0, 0);
        // Arm 0: 15 places, put in tick 18, home in 35. Arm 1: at 20 in tick 20, put in 32, home in 44.
        Due.same("both are done", hall.tick(45), 2);
        Halls.armIs("rests at 0", hall, 0, 0, 0, -1, -1);
        Halls.armIs("rests at 20", hall, 1, 20, 0, -1, -1);
        return hall;
    }

    /** Part 2: "SPAN (.. of its own place": arm 1 stands at 20 and would go up; arm 0 takes at 19 or at 20. */
    private static void mayFromWhereItStands() {
        for (int t = 1; t <= 3; t += 2) {
            TapeHall hall = armsAt0And20(hall(new int[] {0, 20, 35, 19}, 15, 30));
            hall.ask(Halls.URGENT, t, 0, 0);
            hall.ask(Halls.READ, 2, 0, 0);
            hall.tick(1);
            Halls.armIs("to the first reader", hall, 0, 0, 1, t, 15);
            Due.same("from 20 by 35 to 30, the other one takes tape " + t, hall.arm(1, 1), t == 3 ? 1 : 0);
        }
    }

    /** Part 2: "and the places where the JOB takes, if it has not taken yet": arm 1 is to take at 20. */
    private static void mayAheadOfWhereItTakes() {
        for (int slot = 19; slot <= 20; slot++) {
            TapeHall hall = hall(new int[] {2, 20, 3}, 5, 30, slot);
            hall.ask(Halls.URGENT, 0, 0, 0);
            hall.ask(Halls.READ, 1, 0, 0);
            // Arm 0 has its tape home in tick 13; arm 1 comes to 20 in tick 20.
            hall.tick(13);
            hall.breaks(0);
            hall.ask(Halls.READ, 2, 0, 0);
            hall.tick(1);
            Halls.armIs("from 27 by 20 to 30", hall, 1, 27, 1, 1, 30);
            Due.same("from 3 to " + slot, hall.arm(0, 1), 20 - slot);
        }
    }

    /** Part 2: "SPAN (.. and puts)": arm 1 has taken at 35 and is to put at 12; arm 0 takes at 11 or 12. */
    private static void mayAheadOfWhereItPuts() {
        for (int home = 11; home <= 12; home++) {
            TapeHall hall = hall(new int[] {2, 35, home}, 4, 12);
            hall.ask(Halls.URGENT, 0, 0, 0);
            hall.ask(Halls.READ, 1, 0, 0);
            // Arm 0 has its tape home in tick 11; arm 1 takes in tick 6 and would put in tick 30.
            hall.tick(11);
            hall.ask(Halls.READ, 2, 0, 0);
            hall.tick(1);
            Halls.armIs("from 30 to 12", hall, 1, 30, 2, 1, 12);
            Due.same("from " + home + " to 4", hall.arm(0, 1), 12 - home);
        }
    }

    /** Part 2: "SPAN (.. of its own place": arm 1 is on its way from 20 up; arm 0 would take one place behind it. */
    private static void mayAheadOfWhereItStands() {
        for (int home = 22; home <= 23; home++) {
            TapeHall hall = hall(new int[] {0, 20, 35, home}, 15, 1, 30);
            hall.breaks(1);
            armsAt0And20(hall);
            hall.breaks(0);
            hall.mends(1);
            hall.ask(Halls.URGENT, 0, 39, 0);
            hall.ask(Halls.READ, 2, 0, 0);
            // Tick 45: arm 0 is to bring tape 0 to the reader at 1, arm 1 tape 2 to that at 30.
            hall.tick(1);
            hall.mends(0);
            hall.ask(Halls.READ, 3, 0, 0);
            hall.tick(3);
            Halls.armIs("at 23 in tick 48", hall, 1, 23, 1, 2, 30);
            Due.same("from 1 by " + home + " to 15", hall.arm(0, 1), 23 - home);
            hall.tick(1);
            Due.same("a tick later", hall.arm(0, 1), 1);
        }
    }
}
