import java.util.NoSuchElementException;

/**
 * What the document says at the edges of promises 1 to 4, 10 and 16: new objects, tapes, readers,
 * settings, numbers and their rows. Above each test stands the sentence that it would see broken.
 */
final class TapeEdgesTest {
    public static void main(String[] args) {
        newObject();
        objectsAreApart();
        lastOfAllCalls();
        tapesAsTheyCome();
        twelveTapes();
        homes();
        homeOfAnother();
        kinds();
        places();
        belowZeroElse();
        numbersAtFirst();
        headAtFirst();
        bytesAreCut();
        shortsAreCut();
        intsAndLongsAreWhole();
        slots();
        slotOfAnother();
        slotOfATape();
        threeReaders();
        thresholds();
        leastThreshold();
        greatestThreshold();
        bounds();
        leastBound();
        greatestBound();
        refusedSettings();
        settingsOfOneRefused();
        cellsOfPlaces();
        cellsOfOnePlace();
        cellOfNoTape();
        cellOfMissingRow();
        copyOfNoTape();
        copyNotThere();
        copyOfMissingRow();
        copyOfUnlikeKinds();
        copyBelowZero();
        copyBeyondFrom();
        copyBeyondTo();
        copyOfNothing();
        copyThatWraps();
        copyRefusedInOrder();
        copyIntoItself();
        Due.close();
    }

    /** 1: "No TAPES, READERS, ASKS, ITEMS; TICK 0." */
    private static void newObject() {
        TapeHall hall = new TapeHall();
        for (int what = 0; what <= 11; what++) {
            Due.same("new: count " + what, hall.count(what), 0);
        }
        for (int k = 0; k < 3; k++) {
            Due.same("new: no reader " + k, hall.rig(k, 0), -1);
        }
        for (int t = 0; t < 12; t++) {
            Due.same("new: no tape " + t, hall.tapeOf(t, 0), -1);
            Due.same("new: no order " + t, hall.order(t, 0), -1);
        }
        for (int k = 0; k < 150; k++) {
            Due.same("new: no ask " + k, hall.askOf(k, 0), -1);
        }
        for (int i = 0; i < 8; i++) {
            Due.same("new: no item " + i, hall.begins(i), -1);
        }
        Due.same("new: laid", hall.laid(), 0);
        Due.same("new: clear", hall.clear(), 0);
        Due.same("new: ticks of nothing", hall.tick(400), 0);
        Due.same("new: the arms rest", hall.count(11), 0);
        Due.same("new: arm 0 at its end", hall.arm(0, 0), -1);
        Due.same("new: arm 1 at its end", hall.arm(1, 0), 40);
    }

    /** 1: a new object has nothing of an older one. */
    private static void objectsAreApart() {
        TapeHall old = Halls.together(Halls.LONGS, 5);
        old.ask(Halls.READ, 0, 1, 0);
        old.item(3, 3);
        old.tick(5);
        TapeHall hall = new TapeHall();
        for (int what = 0; what <= 11; what++) {
            Due.same("beside an older one: count " + what, hall.count(what), 0);
        }
    }

    /** "An object is used for at most 512 calls after it has been made": the last one still answers as it is due. */
    private static void lastOfAllCalls() {
        TapeHall hall = new TapeHall();
        hall.tape(39, Halls.LONGS, 60);
        for (int k = 0; k < 150; k++) {
            hall.ask(k == 0 ? Halls.URGENT : Halls.READ, 0, 59, 0);
        }
        for (int i = 152; i <= 511; i++) {
            Due.same("call " + i, hall.tick(400), 0);
        }
        // 360 times 400 ticks: each of the 150 asks is so old, one is urgent, the home is 39 off.
        Due.same("call 512", hall.tapeOf(0, 6), 150 * 144000 + 149 * 10 + 100 - 78);
    }

    /** 2: "A TAPE: its number"; Terms: "numbered as they come". A refused one takes no number. */
    private static void tapesAsTheyCome() {
        TapeHall hall = new TapeHall();
        Due.same("the first", hall.tape(30, 0, 5), 0);
        Due.same("refused", hall.tape(30, 0, 5), -1);
        Due.same("refused, below 0", hall.tape(31, 0, -5), -2);
        Due.same("the second", hall.tape(2, 4, 5), 1);
        Due.same("the third", hall.tape(1, 3, 5), 2);
        Due.same("home of the first", hall.tapeOf(0, 0), 30);
        Due.same("home of the second", hall.tapeOf(1, 0), 2);
        Due.same("home of the third", hall.tapeOf(2, 0), 1);
        Due.same("no fourth", hall.tapeOf(3, 0), -1);
    }

    /** 2: "twelve are there"; Terms: "TAPES (at most 12". */
    private static void twelveTapes() {
        TapeHall hall = new TapeHall();
        for (int t = 0; t < 12; t++) {
            Due.same("tape " + t, hall.tape(3 * t, t % 5, 60 - t), t);
        }
        Due.same("a thirteenth", hall.tape(1, 0, 5), -1);
        Due.same("twelve", hall.count(0), 12);
        Due.same("the last one's home", hall.tapeOf(11, 0), 33);
        Due.same("the last one's places", hall.tapeOf(11, 2), 49);
        Due.same("no thirteenth", hall.tapeOf(12, 0), -1);
    }

    /** 2: "no such slot"; Terms: "each at its HOME, a slot 0 to 39 of its own". */
    private static void homes() {
        TapeHall hall = new TapeHall();
        int[] refused = {-1, -2, 40, 41, Halls.LEAST, Halls.GREATEST};
        for (int home : refused) {
            Due.same("home " + home, hall.tape(home, 0, 5), -1);
        }
        Due.same("none came", hall.count(0), 0);
        Due.same("home 0", hall.tape(0, 0, 5), 0);
        Due.same("home 39", hall.tape(39, 0, 5), 1);
        Due.same("it is at 0", hall.tapeOf(0, 0), 0);
        Due.same("it is at 39", hall.tapeOf(1, 0), 39);
    }

    /** 2: "another one's HOME". It stays that while the tape is away. */
    private static void homeOfAnother() {
        TapeHall hall = new TapeHall();
        hall.tape(5, 0, 5);
        hall.tape(7, 0, 5);
        hall.reader(6);
        hall.settings(-1000, 1000);
        Due.same("home of the first", hall.tape(5, 1, 9), -1);
        Due.same("home of the second", hall.tape(7, 1, 9), -1);
        hall.ask(Halls.READ, 0, 4, 0);
        hall.tick(8);
        Due.same("an arm has the first", hall.tapeOf(0, 4), 1);
        Due.same("its home while it is away", hall.tape(5, 1, 9), -1);
        Due.same("the reader's slot beside it", hall.tape(6, 1, 9), 2);
        Due.same("nothing was made anew", hall.tapeOf(0, 2), 5);
    }

    /** 2: "KIND"; Terms: "a row of KIND 0 bytes, 1 shorts, 2 ints, 3 longs .., or 4". */
    private static void kinds() {
        TapeHall hall = new TapeHall();
        int[] refused = {-1, 5, Halls.LEAST, Halls.GREATEST};
        for (int kind : refused) {
            Due.same("kind " + kind, hall.tape(0, kind, 5), -1);
        }
        for (int kind = 0; kind <= 4; kind++) {
            Due.same("kind " + kind, hall.tape(kind, kind, 5), kind);
            Due.same("kind told", hall.tapeOf(kind, 1), kind);
        }
        Due.same("five came", hall.count(0), 5);
    }

    /** 2: "n above 60 or 0"; Terms: "PLACES 0 to n - 1 (n 1 to 60)". */
    private static void places() {
        TapeHall hall = new TapeHall();
        int[] refused = {0, 61, 62, Halls.GREATEST};
        for (int n : refused) {
            Due.same(n + " places", hall.tape(0, 0, n), -1);
            Due.same(n + " places, no row", hall.tape(0, 4, n), -1);
        }
        Due.same("none came", hall.count(0), 0);
        Due.same("1 place", hall.tape(0, 0, 1), 0);
        Due.same("60 places", hall.tape(1, 0, 60), 1);
        Due.same("60 places, no row", hall.tape(2, 4, 60), 2);
        Due.same("1 told", hall.tapeOf(0, 2), 1);
        Due.same("60 told", hall.tapeOf(1, 2), 60);
        Due.same("60 told, no row", hall.tapeOf(2, 2), 60);
    }

    /** 2: "-2 (else): n is below 0". What makes it NONE goes ahead of that. */
    private static void belowZeroElse() {
        TapeHall hall = new TapeHall();
        Due.same("-1 places", hall.tape(0, 0, -1), -2);
        Due.same("the least number of places", hall.tape(39, 4, Halls.LEAST), -2);
        Due.same("-1 places, home -1", hall.tape(-1, 0, -1), -1);
        Due.same("-1 places, home 40", hall.tape(40, 0, -1), -1);
        Due.same("-1 places, kind -1", hall.tape(0, -1, -1), -1);
        Due.same("-1 places, kind 5", hall.tape(0, 5, -1), -1);
        Due.same("none came", hall.count(0), 0);
        for (int t = 0; t < 11; t++) {
            hall.tape(t, 0, 5);
        }
        Due.same("-1 places, home of another", hall.tape(10, 0, -1), -1);
        Due.same("-1 places, eleven are there", hall.tape(30, 0, -1), -2);
        hall.tape(11, 0, 5);
        Due.same("-1 places, twelve are there", hall.tape(30, 0, -1), -1);
    }

    /** Terms: "each with a number, 0 at first". */
    private static void numbersAtFirst() {
        TapeHall hall = new TapeHall();
        for (int kind = 0; kind < 4; kind++) {
            hall.tape(kind, kind, 60);
            for (int i = 0; i < 60; i++) {
                Due.same("kind " + kind + " at " + i, hall.cell(kind, i), 0);
            }
        }
    }

    /** Terms: "HEAD: a PLACE, 0 at first." It stays there till an ask is done. */
    private static void headAtFirst() {
        TapeHall hall = Halls.together(Halls.LONGS, 10);
        Due.same("at first", hall.tapeOf(0, 3), 0);
        hall.ask(Halls.READ, 0, 9, 0);
        Due.same("tick 12 is the last but one of its cost", hall.tick(12), 0);
        Due.same("still", hall.tapeOf(0, 3), 0);
        Due.same("the last one", hall.tick(1), 1);
        Due.same("at the last place", hall.tapeOf(0, 3), 9);
    }

    /** Numbers written from place 0 on, then what the row holds and what a second write finds there. */
    private static void written(int kind, int[] numbers, long... due) {
        TapeHall hall = Halls.together(kind, 20);
        for (int i = 0; i < numbers.length; i++) {
            hall.ask(Halls.WRITE, 0, i, numbers[i]);
        }
        Halls.ticks(hall, 200);
        for (int i = 0; i < numbers.length; i++) {
            hall.ask(Halls.WRITE, 0, i, 0);
            Due.same("kind " + kind + ", written " + numbers[i], hall.cell(0, i), due[i]);
        }
        Due.same("kind " + kind + ", beside it", hall.cell(0, numbers.length), 0);
        Halls.ticks(hall, 200);
        for (int i = 0; i < numbers.length; i++) {
            Due.same("kind " + kind + ", what was there of " + numbers[i], hall.askOf(numbers.length + i, 5), due[i]);
            Due.same("kind " + kind + ", b of the ask", hall.askOf(i, 7), numbers[i]);
        }
    }

    /** Terms: "KIND 0 bytes .. (what is written is cut to it)". */
    private static void bytesAreCut() {
        int[] numbers = {127, 128, -128, -129, 255, 256, 32768, Halls.LEAST, Halls.GREATEST};
        written(Halls.BYTES, numbers, 127, -128, -128, 127, -1, 0, 0, 0, -1);
    }

    /** Terms: "1 shorts .. (what is written is cut to it)". */
    private static void shortsAreCut() {
        int[] numbers = {128, 32767, 32768, -32768, -32769, 65535, 65536, Halls.LEAST, Halls.GREATEST};
        written(Halls.SHORTS, numbers, 128, 32767, -32768, -32768, 32767, -1, 0, 0, -1);
    }

    /** Terms: "2 ints, 3 longs": no number that an ask writes is too large for them. */
    private static void intsAndLongsAreWhole() {
        int[] numbers = {32768, -32769, 65536, Halls.LEAST, Halls.GREATEST};
        written(Halls.INTS, numbers, 32768, -32769, 65536, -2147483648L, 2147483647L);
        written(Halls.LONGS, numbers, 32768, -32769, 65536, -2147483648L, 2147483647L);
    }

    /** 3: "no such slot". */
    private static void slots() {
        TapeHall hall = new TapeHall();
        int[] refused = {-1, -2, 40, 41, Halls.LEAST, Halls.GREATEST};
        for (int slot : refused) {
            Due.same("slot " + slot, hall.reader(slot), -1);
        }
        Due.same("none came", hall.count(1), 0);
        Due.same("slot 0", hall.reader(0), 0);
        Due.same("slot 39", hall.reader(39), 1);
        Due.same("it is at 0", hall.rig(0, 0), 0);
        Due.same("it is at 39", hall.rig(1, 0), 39);
    }

    /** 3: "another one's". */
    private static void slotOfAnother() {
        TapeHall hall = new TapeHall();
        Due.same("the first", hall.reader(8), 0);
        Due.same("its slot", hall.reader(8), -1);
        Due.same("the second", hall.reader(9), 1);
        Due.same("the first one's slot", hall.reader(8), -1);
        Due.same("the second one's slot", hall.reader(9), -1);
        Due.same("two came", hall.count(1), 2);
        Due.same("a third", hall.reader(7), 2);
    }

    /** Terms: "READERS .. each at a slot of its own (TAPES may have that, too)". */
    private static void slotOfATape() {
        TapeHall hall = new TapeHall();
        Due.same("a tape", hall.tape(12, 0, 5), 0);
        Due.same("a reader at its home", hall.reader(12), 0);
        Due.same("another reader", hall.reader(13), 1);
        Due.same("a tape at its slot", hall.tape(13, 0, 5), 1);
    }

    /** 3: "three are there"; Terms: "READERS (at most 3)". */
    private static void threeReaders() {
        TapeHall hall = new TapeHall();
        for (int k = 0; k < 3; k++) {
            Due.same("reader " + k, hall.reader(20 - k), k);
        }
        Due.same("a fourth", hall.reader(21), -1);
        Due.same("three", hall.count(1), 3);
        Due.same("the last one's slot", hall.rig(2, 0), 18);
        Due.same("no fourth", hall.rig(3, 0), -1);
    }

    /** 4: "THRESHOLD (-1000 to 10000)": what is taken and what is refused. */
    private static void thresholds() {
        TapeHall hall = new TapeHall();
        int[] taken = {-1000, -999, 0, 9999, 10000};
        for (int threshold : taken) {
            Due.yes("threshold " + threshold, hall.settings(threshold, 5));
        }
        int[] refused = {-1001, 10001, Halls.LEAST, Halls.GREATEST};
        for (int threshold : refused) {
            Due.no("threshold " + threshold, hall.settings(threshold, 5));
        }
    }

    /** 4: a threshold of -1000 lets pass what is worth least. */
    private static void leastThreshold() {
        TapeHall hall = Halls.farApart();
        hall.ask(Halls.READ, 0, 0, 0);
        Due.no("-1001", hall.settings(-1001, 1000));
        hall.tick(1);
        Due.same("worth -68, refused", hall.rig(0, 1), Halls.EMPTY);
        Due.yes("-1000", hall.settings(-1000, 1000));
        hall.tick(1);
        Due.same("worth -67, taken", hall.rig(0, 1), Halls.COMING);
    }

    /** 4: a threshold of 10000 is reached by 10000, not by 9999. */
    private static void greatestThreshold() {
        int[] due = {Halls.EMPTY, Halls.COMING};
        for (int more = 0; more <= 1; more++) {
            TapeHall hall = Halls.together(Halls.LONGS, 5);
            Due.yes("10000", hall.settings(10000, 10000));
            hall.ask(Halls.READ, 0, 0, 0);
            hall.tick(9 + more);
            Halls.ask(hall, Halls.URGENT, 0, 99);
            Halls.ask(hall, Halls.READ, 0, 8);
            // The first ask is 9 or 10 old: it is worth 19 or 20, the others 9980.
            Due.same("worth", hall.tapeOf(0, 6), 9999 + more);
            hall.tick(1);
            Due.same("of a worth of " + (9999 + more), hall.rig(0, 1), due[more]);
        }
    }

    /** 4: "BOUND (0 to 10000)": what is taken and what is refused. */
    private static void bounds() {
        TapeHall hall = new TapeHall();
        int[] taken = {0, 1, 9999, 10000};
        for (int bound : taken) {
            Due.yes("bound " + bound, hall.settings(5, bound));
        }
        int[] refused = {-1, 10001, Halls.LEAST, Halls.GREATEST};
        for (int bound : refused) {
            Due.no("bound " + bound, hall.settings(5, bound));
        }
    }

    /** 4: a bound of 0 is reached at once, one of 1 a tick later. */
    private static void leastBound() {
        TapeHall hall = Halls.farApart();
        hall.settings(10000, 0);
        hall.ask(Halls.READ, 0, 0, 0);
        hall.tick(1);
        Due.same("bound 0, age 0", hall.rig(0, 1), Halls.COMING);
        hall = Halls.farApart();
        hall.settings(10000, 1);
        hall.ask(Halls.READ, 0, 0, 0);
        hall.tick(1);
        Due.same("bound 1, age 0", hall.rig(0, 1), Halls.EMPTY);
        hall.tick(1);
        Due.same("bound 1, age 1", hall.rig(0, 1), Halls.COMING);
    }

    /** 4: a bound of 10000 is reached by an age of 10000, not by 9999. */
    private static void greatestBound() {
        TapeHall hall = Halls.farApart();
        Due.yes("10000", hall.settings(10000, 10000));
        hall.ask(Halls.READ, 0, 0, 0);
        Halls.ticks(hall, 10000);
        Due.same("age 9999", hall.rig(0, 1), Halls.EMPTY);
        hall.tick(1);
        Due.same("age 10000", hall.rig(0, 1), Halls.COMING);
    }

    /** 4: "False: other numbers." Then both stay what they were. */
    private static void refusedSettings() {
        int[][] refused = {{-1001, 0}, {10001, 0}, {-1000, -1}, {-1000, 10001}, {Halls.LEAST, Halls.GREATEST}};
        TapeHall hall = Halls.together(Halls.LONGS, 5);
        hall.settings(20, 1000);
        hall.ask(Halls.READ, 0, 0, 0);
        for (int[] numbers : refused) {
            Due.no("refused", hall.settings(numbers[0], numbers[1]));
        }
        hall.tick(10);
        Due.same("worth 19", hall.rig(0, 1), Halls.EMPTY);
        hall.tick(1);
        Due.same("worth 20", hall.rig(0, 1), Halls.COMING);
        hall = Halls.together(Halls.LONGS, 5);
        hall.settings(10000, 30);
        hall.ask(Halls.READ, 0, 0, 0);
        for (int[] numbers : refused) {
            Due.no("refused", hall.settings(numbers[0], numbers[1]));
        }
        hall.tick(30);
        Due.same("age 29", hall.rig(0, 1), Halls.EMPTY);
        hall.tick(1);
        Due.same("age 30", hall.rig(0, 1), Halls.COMING);
    }

    /** 4, parts: one number that can be taken does not save the other one, whichever is wrong. */
    private static void settingsOfOneRefused() {
        TapeHall hall = new TapeHall();
        Due.no("threshold alone is wrong, least bound", hall.settings(10001, 0));
        Due.no("threshold alone is wrong, greatest bound", hall.settings(-1001, 10000));
        Due.no("bound alone is wrong, least threshold", hall.settings(-1000, 10001));
        Due.no("bound alone is wrong, greatest threshold", hall.settings(10000, -1));
        Due.no("both are wrong", hall.settings(10001, -1));
    }

    private static boolean cellThrows(TapeHall hall, int t, int i) {
        try {
            hall.cell(t, i);
            return false;
        } catch (NoSuchElementException e) {
            return true;
        }
    }

    /** 10: "NoSuchElementException: no such .. PLACE". */
    private static void cellsOfPlaces() {
        TapeHall hall = new TapeHall();
        hall.tape(0, Halls.BYTES, 60);
        Due.no("place 0", cellThrows(hall, 0, 0));
        Due.no("place 59", cellThrows(hall, 0, 59));
        int[] refused = {-1, 60, 61, Halls.LEAST, Halls.GREATEST};
        for (int i : refused) {
            Due.yes("place " + i, cellThrows(hall, 0, i));
        }
    }

    /** 10, Terms: "PLACES 0 to n - 1", n being 1. */
    private static void cellsOfOnePlace() {
        TapeHall hall = new TapeHall();
        hall.tape(0, Halls.LONGS, 1);
        hall.tape(1, Halls.LONGS, 2);
        Due.no("the one place", cellThrows(hall, 0, 0));
        Due.yes("behind it", cellThrows(hall, 0, 1));
        Due.yes("ahead of it", cellThrows(hall, 0, -1));
        Due.no("the second of two", cellThrows(hall, 1, 1));
        Due.yes("behind these", cellThrows(hall, 1, 2));
    }

    /** 10: "NoSuchElementException: no such TAPE". */
    private static void cellOfNoTape() {
        TapeHall hall = new TapeHall();
        Due.yes("none is there", cellThrows(hall, 0, 0));
        for (int t = 0; t < 12; t++) {
            Due.yes("tape " + t + " ahead of it", cellThrows(hall, t, 0));
            hall.tape(t, Halls.BYTES, 1);
            Due.no("tape " + t, cellThrows(hall, t, 0));
        }
        int[] refused = {-1, 12, 13, Halls.LEAST, Halls.GREATEST};
        for (int t : refused) {
            Due.yes("tape " + t, cellThrows(hall, t, 0));
        }
    }

    /** 10: "NoSuchElementException: .. or its row is missing". */
    private static void cellOfMissingRow() {
        TapeHall hall = new TapeHall();
        hall.tape(0, Halls.MISSING, 60);
        for (int i = -1; i <= 60; i++) {
            Due.yes("missing row, place " + i, cellThrows(hall, 0, i));
        }
    }

    /** Tapes 0 to 4: two of shorts with 10 and 6 places, one of ints, two without a row. */
    private static TapeHall rows() {
        TapeHall hall = new TapeHall();
        hall.tape(0, Halls.SHORTS, 10);
        hall.tape(1, Halls.SHORTS, 6);
        hall.tape(2, Halls.INTS, 6);
        hall.tape(3, Halls.MISSING, 6);
        hall.tape(4, Halls.MISSING, 6);
        hall.reader(0);
        for (int i = 0; i < 10; i++) {
            hall.ask(Halls.WRITE, 0, i, i + 1);
        }
        Halls.ticks(hall, 100);
        return hall;
    }

    /** 16: "NONE: no such TAPES". */
    private static void copyOfNoTape() {
        TapeHall hall = rows();
        int[] refused = {-1, 5, 11, 12, Halls.LEAST, Halls.GREATEST};
        for (int t : refused) {
            Due.same("from " + t, hall.copy(t, 0, 1, 0, 1), -1);
            Due.same("to " + t, hall.copy(0, 0, t, 0, 1), -1);
            Due.same("both " + t, hall.copy(t, 0, t, 0, 0), -1);
        }
        Due.same("the last one is there", hall.copy(4, 0, 0, 0, 1), -2);
        Due.same("no tape at all", new TapeHall().copy(0, 0, 0, 0, 0), -1);
    }

    /** 16: "(both at HOME without a JOB)"; "NONE: .. one is not there". */
    private static void copyNotThere() {
        TapeHall hall = new TapeHall();
        hall.tape(2, Halls.BYTES, 5);
        hall.tape(5, Halls.BYTES, 5);
        hall.reader(3);
        hall.ask(Halls.READ, 0, 0, 0);
        Due.same("tick 0 is to come: it may still be copied", hall.copy(0, 0, 1, 0, 5), 5);
        int[] wheres = {0, 0, 0, 0, 1, 1, 2, 1, 1};
        // Jobs in ticks 0 and 6, taken in 4 and 7, put in 6 and 9: at work and over within tick 6.
        for (int tick = 0; tick <= 8; tick++) {
            hall.tick(1);
            Due.same("tick " + tick + ": where it is", hall.tapeOf(0, 4), wheres[tick]);
            Due.same("tick " + tick + ": from", hall.copy(0, 0, 1, 0, 1), -1);
            Due.same("tick " + tick + ": to", hall.copy(1, 0, 0, 0, 1), -1);
            Due.same("tick " + tick + ": itself", hall.copy(0, 0, 0, 0, 1), -1);
            Due.same("tick " + tick + ": the other one", hall.copy(1, 0, 1, 0, 1), 1);
        }
        hall.tick(1);
        Due.same("tick 9: there again", hall.copy(0, 0, 1, 0, 1), 1);
    }

    /** 16: "-2: a row is missing". */
    private static void copyOfMissingRow() {
        TapeHall hall = rows();
        Due.same("from", hall.copy(3, 0, 1, 0, 1), -2);
        Due.same("to", hall.copy(1, 0, 3, 0, 1), -2);
        Due.same("both", hall.copy(3, 0, 4, 0, 1), -2);
        Due.same("itself", hall.copy(3, 0, 3, 0, 1), -2);
        Due.same("nothing at all", hall.copy(3, 0, 4, 0, 0), -2);
    }

    /** 16: "-3: rows of unlike KINDS". */
    private static void copyOfUnlikeKinds() {
        TapeHall hall = new TapeHall();
        for (int t = 0; t < 8; t++) {
            hall.tape(t, t / 2, 5);
        }
        for (int from = 0; from < 8; from++) {
            for (int to = 0; to < 8; to++) {
                Due.same("from " + from + " to " + to, hall.copy(from, 0, to, 0, 5), from / 2 == to / 2 ? 5 : -3);
            }
        }
    }

    /** 16: "-4: n below 0". */
    private static void copyBelowZero() {
        TapeHall hall = rows();
        int[] below = {-1, -2, -10, Halls.LEAST};
        for (int n : below) {
            Due.same(n + " of them", hall.copy(0, 5, 1, 5, n), -4);
            Due.same(n + " of them into itself", hall.copy(0, 5, 0, 5, n), -4);
        }
    }

    /** 16: "-4: .. beyond either row": the one that is read. */
    private static void copyBeyondFrom() {
        TapeHall hall = rows();
        Due.same("all six", hall.copy(1, 0, 0, 0, 6), 6);
        Due.same("seven of six", hall.copy(1, 0, 0, 0, 7), -4);
        Due.same("six from 1 on", hall.copy(1, 1, 0, 0, 6), -4);
        Due.same("five from 1 on", hall.copy(1, 1, 0, 0, 5), 5);
        Due.same("the last one", hall.copy(1, 5, 0, 0, 1), 1);
        Due.same("one behind it", hall.copy(1, 6, 0, 0, 1), -4);
        Due.same("from -1 on", hall.copy(1, -1, 0, 0, 1), -4);
        Due.same("from -1 on, to the end", hall.copy(1, -1, 0, 0, 7), -4);
        Due.same("from the least on", hall.copy(1, Halls.LEAST, 0, 0, 1), -4);
        Due.same("from the greatest on", hall.copy(1, Halls.GREATEST, 0, 0, 0), -4);
    }

    /** 16: "-4: .. beyond either row": the one that is written. */
    private static void copyBeyondTo() {
        TapeHall hall = rows();
        Due.same("six into six", hall.copy(0, 4, 1, 0, 6), 6);
        Due.row("six into six", Halls.cells(hall, 1, 6), 5, 6, 7, 8, 9, 10);
        Due.same("seven into six", hall.copy(0, 0, 1, 0, 7), -4);
        Due.same("six to 1", hall.copy(0, 0, 1, 1, 6), -4);
        Due.same("one behind the last", hall.copy(0, 0, 1, 6, 1), -4);
        Due.same("to -1", hall.copy(0, 0, 1, -1, 1), -4);
        Due.same("to -1, to the end", hall.copy(0, 0, 1, -1, 7), -4);
        Due.same("to the least", hall.copy(0, 0, 1, Halls.LEAST, 1), -4);
        Due.same("to the greatest", hall.copy(0, 0, 1, Halls.GREATEST, 0), -4);
        Due.row("refused ones wrote nothing", Halls.cells(hall, 1, 6), 5, 6, 7, 8, 9, 10);
        Due.same("five to 1", hall.copy(0, 0, 1, 1, 5), 5);
        Due.row("five to 1", Halls.cells(hall, 1, 6), 5, 1, 2, 3, 4, 5);
        Due.same("one to the last", hall.copy(0, 9, 1, 5, 1), 1);
        Due.row("one to the last", Halls.cells(hall, 1, 6), 5, 1, 2, 3, 4, 10);
    }

    /** 16: "n numbers .. are copied ..: n", n being 0: at any place of the rows, their ends, too. */
    private static void copyOfNothing() {
        TapeHall hall = rows();
        Due.same("at the beginning", hall.copy(0, 0, 1, 0, 0), 0);
        Due.same("at the end of both", hall.copy(0, 10, 1, 6, 0), 0);
        Due.same("behind the end of the one", hall.copy(0, 11, 1, 6, 0), -4);
        Due.same("behind the end of the other", hall.copy(0, 10, 1, 7, 0), -4);
        Due.same("ahead of the one", hall.copy(0, -1, 1, 0, 0), -4);
        Due.same("ahead of the other", hall.copy(0, 0, 1, -1, 0), -4);
        Due.row("nothing is written", Halls.cells(hall, 1, 6), 0, 0, 0, 0, 0, 0);
    }

    /** 16: "beyond either row", with sums that an int does not hold. */
    private static void copyThatWraps() {
        TapeHall hall = rows();
        int[] great = {Halls.GREATEST, Halls.GREATEST - 1, Halls.GREATEST - 5, 1 << 30};
        for (int many : great) {
            Due.same(many + " from 0 on", hall.copy(0, 0, 1, 0, many), -4);
            Due.same(many + " from 5 on", hall.copy(0, 5, 1, 5, many), -4);
            Due.same("from " + many + " on", hall.copy(0, many, 1, 0, 1), -4);
            Due.same("to " + many, hall.copy(0, 0, 1, many, 1), -4);
            Due.same("all of them " + many, hall.copy(0, many, 1, many, many), -4);
        }
        Due.row("nothing is written", Halls.cells(hall, 1, 6), 0, 0, 0, 0, 0, 0);
    }

    /** 16: what is told of several faults is the first by the order of the sentence. */
    private static void copyRefusedInOrder() {
        TapeHall hall = rows();
        Due.same("no such tape, missing row, n below 0", hall.copy(5, 0, 3, 0, -1), -1);
        Due.same("missing row, n below 0", hall.copy(3, 0, 0, 0, -1), -2);
        Due.same("missing row, beyond", hall.copy(0, 20, 3, 0, 1), -2);
        Due.same("unlike kinds, n below 0", hall.copy(0, 0, 2, 0, -1), -3);
        Due.same("unlike kinds, beyond", hall.copy(2, 0, 0, 20, 1), -3);
        hall.ask(Halls.READ, 3, 0, 0);
        hall.tick(6);
        Due.same("the tape is on its way", hall.tapeOf(3, 4), 1);
        Due.same("not there, missing row, n below 0", hall.copy(3, 0, 0, 0, -1), -1);
    }

    /** 16: "(Of one TAPE into itself as if all were read first.)" */
    private static void copyIntoItself() {
        TapeHall hall = rows();
        Due.same("one place up", hall.copy(0, 0, 0, 1, 9), 9);
        Due.row("one place up", Halls.cells(hall, 0, 10), 1, 1, 2, 3, 4, 5, 6, 7, 8, 9);
        hall = rows();
        Due.same("one place down", hall.copy(0, 1, 0, 0, 9), 9);
        Due.row("one place down", Halls.cells(hall, 0, 10), 2, 3, 4, 5, 6, 7, 8, 9, 10, 10);
        hall = rows();
        Due.same("where they are", hall.copy(0, 0, 0, 0, 10), 10);
        Due.row("where they are", Halls.cells(hall, 0, 10), 1, 2, 3, 4, 5, 6, 7, 8, 9, 10);
        Due.same("apart", hall.copy(0, 0, 0, 5, 5), 5);
        Due.row("apart", Halls.cells(hall, 0, 10), 1, 2, 3, 4, 5, 1, 2, 3, 4, 5);
        Due.same("beyond itself", hall.copy(0, 0, 0, 1, 10), -4);
    }
}
