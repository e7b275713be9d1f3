/**
 * What the document says at the edges of promises 5, 11, 12 and 13, and of what "Terms" says of ASKS,
 * COST, RESULT and ORDER. Above each test stands the sentence that it would see broken.
 */
final class AskEdgesTest {
    public static void main(String[] args) {
        asksAsTheyCome();
        askOfNoTape();
        kinds();
        placesOfOnePlaceKinds();
        placesOfSpans();
        spanBack();
        tapeOfOnePlace();
        tapeWithoutRow();
        scrubDue();
        meaninglessB();
        fullOfAsks();
        fullOfEndedAsks();
        refusedTakesNoNumber();
        tickAtHand();
        othersOfAsks();
        aheadOfTheEnd();
        endedInTheTick();
        sumsOfLongs();
        whatWasThere();
        resultOfFailed();
        costWhereTheHeadIs();
        costAway();
        costOfSpans();
        noTurnFromNothing();
        turnDownAndUp();
        turnUpAndDown();
        turnsEachTime();
        wayBehindEachAsk();
        headBehindEachKind();
        orderOfNone();
        orderOfOne();
        orderOfEight();
        orderOfNine();
        orderIsOfWaiting();
        orderLesserFirst();
        othersOfOrder();
        othersOfTold();
        toldGreatest();
        toldOfFewer();
        toldAsTheHeadMoves();
        Due.close();
    }

    private static TapeHall places(int n) {
        return Halls.together(Halls.LONGS, n);
    }

    /** A tape of 40 places whose head an ask that has been done has left there; the next ask is number 1. */
    private static TapeHall headAt(int place) {
        TapeHall hall = places(40);
        hall.ask(Halls.READ, 0, place, 0);
        hall.tick(100);
        Due.same("head", hall.tapeOf(0, 3), place);
        return hall;
    }

    private static void orderIs(String name, TapeHall hall, int... due) {
        for (int i = 0; i < due.length; i++) {
            Due.same(name + ": order " + i, hall.order(0, i), due[i]);
        }
        Due.same(name + ": order behind", hall.order(0, due.length), -1);
    }

    private static void toldIs(String name, TapeHall hall, int cost, int waits, int leastWaits) {
        Due.same(name + ": cost", hall.told(0, 0), cost);
        Due.same(name + ": waits", hall.told(0, 1), waits);
        Due.same(name + ": least waits", hall.told(0, 2), leastWaits);
    }

    /** 5: "An ASK: its number"; Terms: "numbered as they come", over all tapes. */
    private static void asksAsTheyCome() {
        TapeHall hall = Halls.sideBySide(3);
        Due.same("the first", hall.ask(Halls.READ, 2, 1, 0), 0);
        Due.same("the second", hall.ask(Halls.READ, 0, 1, 0), 1);
        Due.same("the third", hall.ask(Halls.READ, 2, 1, 0), 2);
        Due.same("tape of the first", hall.askOf(0, 1), 2);
        Due.same("tape of the second", hall.askOf(1, 1), 0);
    }

    /** 5: "NONE: no such TAPE". */
    private static void askOfNoTape() {
        TapeHall hall = Halls.sideBySide(3);
        int[] refused = {-1, 3, 11, 12, Halls.LEAST, Halls.GREATEST};
        for (int t : refused) {
            for (int kind = 0; kind <= 4; kind++) {
                Due.same("tape " + t + " kind " + kind, hall.ask(kind, t, 0, 0), -1);
            }
        }
        Due.same("none came", hall.count(2), 0);
        Due.same("tape 2", hall.ask(Halls.READ, 2, 0, 0), 0);
        Due.same("without any tape", new TapeHall().ask(Halls.READ, 0, 0, 0), -1);
    }

    /** 5: "NONE: no such .. KIND". */
    private static void kinds() {
        TapeHall hall = places(5);
        int[] refused = {-1, 5, Halls.LEAST, Halls.GREATEST};
        for (int kind : refused) {
            Due.same("kind " + kind, hall.ask(kind, 0, 0, 0), -1);
        }
        for (int kind = 0; kind <= 4; kind++) {
            Due.same("kind " + kind, hall.ask(kind, 0, 0, 0), kind);
            Due.same("kind told", hall.askOf(kind, 0), kind);
        }
    }

    /** 5: "NONE: no such .. PLACES" of a READ, a WRITE, an URGENT one. */
    private static void placesOfOnePlaceKinds() {
        int[] kinds = {Halls.READ, Halls.WRITE, Halls.URGENT};
        int[] refused = {-1, 60, 61, Halls.LEAST, Halls.GREATEST};
        for (int kind : kinds) {
            TapeHall hall = places(60);
            for (int a : refused) {
                Due.same("kind " + kind + " at " + a, hall.ask(kind, 0, a, 0), -1);
            }
            Due.same("kind " + kind + " at 0", hall.ask(kind, 0, 0, 0), 0);
            Due.same("kind " + kind + " at 59", hall.ask(kind, 0, 59, 0), 1);
        }
    }

    /** 5: "NONE: no such .. PLACES" of a SPAN, at both its ends. */
    private static void placesOfSpans() {
        TapeHall hall = places(60);
        Due.same("from -1", hall.ask(Halls.SPAN, 0, -1, 5), -1);
        Due.same("from the least", hall.ask(Halls.SPAN, 0, Halls.LEAST, 5), -1);
        Due.same("to 60", hall.ask(Halls.SPAN, 0, 5, 60), -1);
        Due.same("to the greatest", hall.ask(Halls.SPAN, 0, 5, Halls.GREATEST), -1);
        Due.same("-1 alone", hall.ask(Halls.SPAN, 0, -1, -1), -1);
        Due.same("60 alone", hall.ask(Halls.SPAN, 0, 60, 60), -1);
        Due.same("beyond both ends", hall.ask(Halls.SPAN, 0, Halls.LEAST, Halls.GREATEST), -1);
        Due.same("none came", hall.count(2), 0);
        Due.same("all", hall.ask(Halls.SPAN, 0, 0, 59), 0);
        Due.same("0 alone", hall.ask(Halls.SPAN, 0, 0, 0), 1);
        Due.same("59 alone", hall.ask(Halls.SPAN, 0, 59, 59), 2);
    }

    /** 5: "PLACES (a above b)". */
    private static void spanBack() {
        TapeHall hall = places(60);
        Due.same("1 to 0", hall.ask(Halls.SPAN, 0, 1, 0), -1);
        Due.same("31 to 30", hall.ask(Halls.SPAN, 0, 31, 30), -1);
        Due.same("59 to 0", hall.ask(Halls.SPAN, 0, 59, 0), -1);
        Due.same("0 to -1", hall.ask(Halls.SPAN, 0, 0, -1), -1);
        Due.same("30 to the least", hall.ask(Halls.SPAN, 0, 30, Halls.LEAST), -1);
        Due.same("none came", hall.count(2), 0);
        Due.same("30 to 30", hall.ask(Halls.SPAN, 0, 30, 30), 0);
        Due.same("30 to 31", hall.ask(Halls.SPAN, 0, 30, 31), 1);
    }

    /** Terms: "PLACES 0 to n - 1 (n 1 to 60)": of a tape of one place all asks are of that. */
    private static void tapeOfOnePlace() {
        TapeHall hall = places(1);
        for (int kind = 0; kind <= 4; kind++) {
            Due.same("kind " + kind + " at 0", hall.ask(kind, 0, 0, 0), kind);
        }
        Due.same("at 1", hall.ask(Halls.READ, 0, 1, 0), -1);
        Due.same("to 1", hall.ask(Halls.SPAN, 0, 0, 1), -1);
        // Each takes a tick, and none winds or turns.
        toldIs("five asks", hall, 5, 15, 15);
        Due.same("put in tick 3, the last one in tick 7", hall.tick(8), 5);
        Due.same("ended in", hall.askOf(4, 4), 7);
        Due.same("head", hall.tapeOf(0, 3), 0);
    }

    /** 5: asks of a tape whose row is missing are taken by its places, too. */
    private static void tapeWithoutRow() {
        TapeHall hall = Halls.together(Halls.MISSING, 4);
        Due.same("at 4", hall.ask(Halls.READ, 0, 4, 0), -1);
        Due.same("at 3", hall.ask(Halls.READ, 0, 3, 0), 0);
        Due.same("to 4", hall.ask(Halls.SPAN, 0, 0, 4), -1);
        Due.same("to 3", hall.ask(Halls.SPAN, 0, 0, 3), 1);
    }

    /** 5: "a below 0 of a SCRUB"; a is a tick, no place. */
    private static void scrubDue() {
        TapeHall hall = places(5);
        Due.same("by -1", hall.ask(Halls.SCRUB, 0, -1, 0), -1);
        Due.same("by the least", hall.ask(Halls.SCRUB, 0, Halls.LEAST, 0), -1);
        Due.same("none came", hall.count(2), 0);
        Due.same("by 0", hall.ask(Halls.SCRUB, 0, 0, 0), 0);
        Due.same("by 5", hall.ask(Halls.SCRUB, 0, 5, 0), 1);
        Due.same("by the greatest", hall.ask(Halls.SCRUB, 0, Halls.GREATEST, 0), 2);
        Due.same("a of it", hall.askOf(2, 6), Halls.GREATEST);
    }

    /** 5: "(b means something for 1 and 2 alone.)" */
    private static void meaninglessB() {
        int[] kinds = {Halls.READ, Halls.SCRUB, Halls.URGENT};
        int[] numbers = {-1, 0, 4, 5, Halls.LEAST, Halls.GREATEST};
        for (int kind : kinds) {
            TapeHall hall = places(5);
            for (int i = 0; i < numbers.length; i++) {
                Due.same("kind " + kind + ", b " + numbers[i], hall.ask(kind, 0, 0, numbers[i]), i);
            }
            // Scrubs: 5 ticks, then 2 + 4 + 2 + 5 each. The others: a tick each.
            Due.same("kind " + kind + ", cost", hall.told(0, 0), kind == Halls.SCRUB ? 5 + 5 * 13 : 6);
            Halls.ticks(hall, 100);
            Due.same("kind " + kind + ", all done", hall.count(6), 6);
            Due.same("kind " + kind + ", nothing written", hall.cell(0, 0), 0);
        }
        TapeHall hall = places(5);
        Due.same("any number is written", hall.ask(Halls.WRITE, 0, 4, Halls.LEAST), 0);
    }

    /** 5: "150 are there"; Terms: "ASKS (at most 150". */
    private static void fullOfAsks() {
        TapeHall hall = places(5);
        for (int k = 0; k < 150; k++) {
            Due.same("ask " + k, hall.ask(k % 5, 0, 0, 0), k);
        }
        for (int kind = 0; kind <= 4; kind++) {
            Due.same("one more of kind " + kind, hall.ask(kind, 0, 0, 0), -1);
        }
        Due.same("150", hall.count(2), 150);
        Due.same("150 wait", hall.count(4), 150);
        Due.same("the last", hall.askOf(149, 0), 4);
        Due.same("none behind it", hall.askOf(150, 0), -1);
    }

    /** 5: "150 are there": those that are done stay there. */
    private static void fullOfEndedAsks() {
        TapeHall hall = places(5);
        Halls.ask(hall, Halls.READ, 0, 150);
        // Eight at a time: 18 times 8 and 6.
        Halls.ticks(hall, 400);
        Due.same("all done", hall.count(6), 150);
        Due.same("none waits", hall.count(4), 0);
        Due.same("still full", hall.ask(Halls.READ, 0, 0, 0), -1);
        Due.same("the first is still told", hall.askOf(0, 2), Halls.DONE);
    }

    /** "A refused call changes nothing": the next ask has the next number. */
    private static void refusedTakesNoNumber() {
        TapeHall hall = places(5);
        Due.same("the first", hall.ask(Halls.READ, 0, 0, 0), 0);
        Due.same("no such tape", hall.ask(Halls.READ, 1, 0, 0), -1);
        Due.same("no such kind", hall.ask(5, 0, 0, 0), -1);
        Due.same("no such place", hall.ask(Halls.READ, 0, 5, 0), -1);
        Due.same("back", hall.ask(Halls.SPAN, 0, 2, 1), -1);
        Due.same("due by -1", hall.ask(Halls.SCRUB, 0, -1, 0), -1);
        Due.same("one waits", hall.tapeOf(0, 5), 1);
        Due.same("the second", hall.ask(Halls.READ, 0, 0, 0), 1);
    }

    /** Terms: "with the TICK at hand"; "AGE: the TICK at hand less that of the ASK", 0 at first. */
    private static void tickAtHand() {
        TapeHall hall = Halls.farApart();
        hall.ask(Halls.READ, 0, 0, 0);
        Due.same("worth with age 0", hall.tapeOf(0, 6), 10 - 78);
        hall.tick(1);
        hall.ask(Halls.READ, 0, 0, 0);
        Due.same("worth with ages 1 and 0", hall.tapeOf(0, 6), 21 - 78);
        hall.tick(6);
        hall.ask(Halls.READ, 0, 0, 0);
        Due.same("the first", hall.askOf(0, 3), 0);
        Due.same("the second", hall.askOf(1, 3), 1);
        Due.same("the third", hall.askOf(2, 3), 7);
    }

    /** 11: "NONE for others." */
    private static void othersOfAsks() {
        TapeHall hall = places(5);
        Due.same("none is there", hall.askOf(0, 0), -1);
        Halls.ask(hall, Halls.WRITE, 0, 2);
        int[] refused = {-1, 2, 149, 150, Halls.LEAST, Halls.GREATEST};
        for (int k : refused) {
            for (int what = 0; what <= 7; what++) {
                Due.same("ask " + k + " what " + what, hall.askOf(k, what), -1);
            }
        }
        int[] others = {-1, 8, 9, Halls.LEAST, Halls.GREATEST};
        for (int what : others) {
            Due.same("what " + what, hall.askOf(0, what), -1);
        }
        Due.same("the first what", hall.askOf(1, 0), Halls.WRITE);
        Due.same("the last what", hall.askOf(1, 7), 0);
    }

    /** 11: "4 the TICK in which it was DONE or FAILED (NONE), 5 RESULT (0 ahead of that)". */
    private static void aheadOfTheEnd() {
        TapeHall hall = places(5);
        hall.ask(Halls.WRITE, 0, 2, 77);
        hall.tick(30);
        hall.ask(Halls.READ, 0, 0, 0);
        Due.same("waits", hall.askOf(1, 2), Halls.WAITS);
        Due.same("waits: no end", hall.askOf(1, 4), -1);
        Due.same("waits: no result", hall.askOf(1, 5), 0);
        hall.ask(Halls.READ, 0, 2, 0);
        hall.ask(Halls.SPAN, 0, 1, 3);
        // Put in tick 32: 2 is read in tick 32, 1 to 3 in 33 to 36, 0 in 37 to 42.
        hall.tick(3);
        Due.same("read where the head is", hall.askOf(2, 2), Halls.DONE);
        hall.tick(1);
        Due.same("at work", hall.askOf(3, 2), Halls.AT_WORK);
        Due.same("at work: no end", hall.askOf(3, 4), -1);
        Due.same("at work: no result", hall.askOf(3, 5), 0);
        hall.tick(30);
        Due.same("its result", hall.askOf(3, 5), 77);
    }

    /** 11: "4 the TICK in which it was DONE or FAILED", the first tick of work being the last one, too. */
    private static void endedInTheTick() {
        int[] kinds = {Halls.LONGS, Halls.MISSING};
        int[] states = {Halls.DONE, Halls.FAILED};
        for (int i = 0; i < 2; i++) {
            TapeHall hall = Halls.together(kinds[i], 5);
            hall.ask(Halls.READ, 0, 0, 0);
            Due.same("ticks 0 to 2", hall.tick(3), 0);
            Due.same("waits still", hall.askOf(0, 2), Halls.WAITS);
            Due.same("tick 3", hall.tick(1), 1);
            Due.same("ended", hall.askOf(0, 2), states[i]);
            Due.same("in tick 3", hall.askOf(0, 4), 3);
            hall.tick(10);
            Due.same("in tick 3 for ever", hall.askOf(0, 4), 3);
        }
    }

    /** Terms: "of a SPAN, a SCRUB the sum (a long, it wraps)": sums that no int holds are whole. */
    private static void sumsOfLongs() {
        int[] numbers = {Halls.GREATEST, Halls.LEAST};
        for (int kind = Halls.INTS; kind <= Halls.LONGS; kind++) {
            for (int number : numbers) {
                TapeHall hall = Halls.together(kind, 60);
                hall.ask(Halls.WRITE, 0, 0, number);
                hall.tick(20);
                for (int i = 1; i < 60; i++) {
                    hall.copy(0, 0, 0, i, 1);
                }
                hall.ask(Halls.SCRUB, 0, 0, 0);
                hall.ask(Halls.SPAN, 0, 0, 1);
                hall.ask(Halls.SPAN, 0, 58, 59);
                Halls.ticks(hall, 400);
                Due.same("sixty of " + number, hall.askOf(1, 5), 60L * number);
                Due.same("the first two of " + number, hall.askOf(2, 5), 2L * number);
                Due.same("the last two of " + number, hall.askOf(3, 5), 2L * number);
            }
        }
    }

    /** Terms: "of a WRITE what was there", cut as it was, and not what it writes. */
    private static void whatWasThere() {
        TapeHall hall = Halls.together(Halls.BYTES, 5);
        hall.ask(Halls.WRITE, 0, 4, 200);
        hall.tick(30);
        Due.same("0 at first", hall.askOf(0, 5), 0);
        hall.ask(Halls.WRITE, 0, 4, 300);
        hall.tick(30);
        Due.same("200 cut", hall.askOf(1, 5), 200 - 256);
        Due.same("300 cut", hall.cell(0, 4), 300 - 256);
    }

    /** Terms: "(FAILED instead, if the TAPE's row is missing)"; "of a FAILED one 0", of each kind. */
    private static void resultOfFailed() {
        TapeHall hall = Halls.together(Halls.MISSING, 5);
        hall.ask(Halls.WRITE, 0, 2, 9);
        hall.ask(Halls.READ, 0, 2, 0);
        hall.ask(Halls.SPAN, 0, 1, 3);
        hall.ask(Halls.SCRUB, 0, 0, 0);
        hall.ask(Halls.URGENT, 0, 2, 0);
        Due.same("all five end", hall.tick(100), 5);
        for (int k = 0; k < 5; k++) {
            Due.same("failed " + k, hall.askOf(k, 2), Halls.FAILED);
            Due.same("without a result " + k, hall.askOf(k, 5), 0);
        }
        Due.same("none is done", hall.count(6), 0);
        Due.same("five failed", hall.count(7), 5);
    }

    /** Terms: "it winds to FROM, a tick for each PLACE .. (none if it is there)". */
    private static void costWhereTheHeadIs() {
        TapeHall hall = places(40);
        hall.ask(Halls.READ, 0, 0, 0);
        toldIs("at 0", hall, 1, 1, 1);
        hall = headAt(39);
        hall.ask(Halls.READ, 0, 39, 0);
        toldIs("at the last place", hall, 1, 1, 1);
        hall = headAt(20);
        hall.ask(Halls.SPAN, 0, 20, 20);
        toldIs("a span of one where the head is", hall, 1, 1, 1);
    }

    /** Terms: "a tick for each PLACE", one place off and as far as can be, up and down. */
    private static void costAway() {
        TapeHall hall = places(60);
        hall.ask(Halls.READ, 0, 1, 0);
        toldIs("one up", hall, 2, 2, 2);
        hall = places(60);
        hall.ask(Halls.READ, 0, 59, 0);
        toldIs("all up", hall, 60, 60, 60);
        hall = headAt(39);
        hall.ask(Halls.READ, 0, 38, 0);
        toldIs("one down", hall, 2, 2, 2);
        hall = headAt(39);
        hall.ask(Halls.READ, 0, 0, 0);
        toldIs("all down", hall, 40, 40, 40);
    }

    /** Terms: "and a tick for each PLACE from FROM to TO", both counted. */
    private static void costOfSpans() {
        TapeHall hall = places(60);
        hall.ask(Halls.SPAN, 0, 0, 59);
        toldIs("all", hall, 60, 60, 60);
        hall = places(60);
        hall.ask(Halls.SPAN, 0, 0, 1);
        toldIs("two", hall, 2, 2, 2);
        hall = places(60);
        hall.ask(Halls.SPAN, 0, 58, 59);
        toldIs("the last two", hall, 58 + 2, 60, 60);
        hall = places(60);
        hall.ask(Halls.SCRUB, 0, 0, 0);
        toldIs("a scrub", hall, 60, 60, 60);
        hall = headAt(39);
        hall.ask(Halls.SCRUB, 0, 0, 0);
        toldIs("a scrub from the end", hall, 39 + 2 + 40, 81, 81);
    }

    /** Terms: "(from 0 to either nothing)". */
    private static void noTurnFromNothing() {
        TapeHall hall = headAt(20);
        hall.ask(Halls.READ, 0, 21, 0);
        toldIs("up", hall, 2, 2, 2);
        hall = headAt(20);
        hall.ask(Halls.READ, 0, 19, 0);
        toldIs("down", hall, 2, 2, 2);
        hall = headAt(20);
        hall.ask(Halls.SPAN, 0, 20, 21);
        toldIs("a span up", hall, 2, 2, 2);
        // The way is still 0 behind an ask where the head is.
        hall = headAt(20);
        hall.ask(Halls.READ, 0, 20, 0);
        hall.ask(Halls.READ, 0, 19, 0);
        toldIs("down behind one that stays", hall, 3, 4, 4);
    }

    /** Terms: "a change from 1 to -1 or back costs 2 ticks more": back, from -1 to 1. */
    private static void turnDownAndUp() {
        TapeHall hall = headAt(20);
        hall.ask(Halls.READ, 0, 19, 0);
        hall.ask(Halls.READ, 0, 39, 0);
        // 19 first: 2, then 2 + 20 + 1. 39 first: 20, then 2 + 20 + 1.
        toldIs("down and up", hall, 25, 2 + 25, 27);
        orderIs("down and up", hall, 1, 2);
        hall = headAt(20);
        hall.ask(Halls.SPAN, 0, 19, 20);
        // 1 down, 2 for the turn, 2 places.
        toldIs("down to a span", hall, 5, 5, 5);
        hall = headAt(20);
        hall.ask(Halls.SPAN, 0, 19, 19);
        toldIs("down to a span of one: no turn", hall, 2, 2, 2);
    }

    /** Terms: "a change from 1 to -1 or back costs 2 ticks more": from 1 to -1. */
    private static void turnUpAndDown() {
        TapeHall hall = headAt(20);
        hall.ask(Halls.READ, 0, 21, 0);
        hall.ask(Halls.READ, 0, 1, 0);
        // 21 first: 2, then 2 + 20 + 1. 1 first: 20, then 2 + 20 + 1.
        toldIs("up and down", hall, 25, 2 + 25, 27);
        orderIs("up and down", hall, 1, 2);
        hall = headAt(20);
        hall.ask(Halls.SPAN, 0, 20, 21);
        hall.ask(Halls.READ, 0, 20, 0);
        // A span is wound up: behind it 2 + 1 + 1. The read first costs nothing but its place.
        toldIs("a span last", hall, 3, 4, 4);
        orderIs("a span last", hall, 2, 1);
    }

    /** Terms: "costs 2 ticks more each time": two turns on the way to one span. */
    private static void turnsEachTime() {
        TapeHall hall = headAt(10);
        hall.ask(Halls.SPAN, 0, 10, 12);
        hall.ask(Halls.SPAN, 0, 5, 20);
        // 3, then 2 + 7 + 2 + 16. The other way about: 5 + 2 + 16, then 2 + 10 + 2 + 3.
        toldIs("up, down and up", hall, 30, 3 + 30, 33);
        orderIs("up, down and up", hall, 1, 2);
        hall = places(60);
        Halls.ask(hall, Halls.SCRUB, 0, 2);
        toldIs("two scrubs", hall, 60 + 2 + 59 + 2 + 60, 60 + 183, 243);
    }

    /** Terms: "HEAD is TO then, WAY the latest one", be it of an ask ahead of that one. */
    private static void wayBehindEachAsk() {
        TapeHall hall = headAt(10);
        hall.ask(Halls.READ, 0, 9, 0);
        hall.ask(Halls.READ, 0, 9, 0);
        hall.ask(Halls.READ, 0, 39, 0);
        // 2 and 1 downwards, then 2 + 30 + 1: the second one has left the way at -1.
        toldIs("kept over an ask", hall, 36, 2 + 3 + 36, 41);
        // The arm is there: chosen, taken, and put in the first tick of work.
        Due.same("the last tick but one of what was told", hall.tick(2 + 35), 2);
        Due.same("the last one", hall.tick(1), 1);
    }

    /** Terms: "HEAD is TO then": a, of a SPAN b, of a SCRUB n - 1. */
    private static void headBehindEachKind() {
        int[] due = {3, 5, 3, 7, 3};
        for (int kind = 0; kind <= 4; kind++) {
            TapeHall hall = places(8);
            hall.ask(kind, 0, 3, 5);
            Due.same("kind " + kind + ", done", hall.tick(60), 1);
            Due.same("kind " + kind + ", head", hall.tapeOf(0, 3), due[kind]);
        }
    }

    /** 12: "NONE: there are not so many"; 13: of no asks each sum is 0. */
    private static void orderOfNone() {
        TapeHall hall = places(10);
        orderIs("none", hall);
        toldIs("none", hall, 0, 0, 0);
        hall.ask(Halls.READ, 0, 5, 0);
        hall.tick(60);
        Due.same("done", hall.count(6), 1);
        orderIs("none any more", hall);
        toldIs("none any more", hall, 0, 0, 0);
    }

    /** 12: "The i-th ASK in the ORDER", of one alone. */
    private static void orderOfOne() {
        TapeHall hall = Halls.sideBySide(2);
        hall.ask(Halls.READ, 1, 5, 0);
        orderIs("of the other tape", hall);
        hall.ask(Halls.READ, 0, 5, 0);
        orderIs("one", hall, 1);
        Due.same("the other tape's", hall.order(1, 0), 0);
        Due.same("behind the other tape's", hall.order(1, 1), -1);
    }

    /** Terms: "of its ASKS that WAIT the first 8 by number": eight are all of them. */
    private static void orderOfEight() {
        TapeHall hall = places(60);
        for (int k = 0; k < 7; k++) {
            hall.ask(Halls.READ, 0, 10 - k, 0);
        }
        orderIs("seven", hall, 6, 5, 4, 3, 2, 1, 0);
        hall.ask(Halls.READ, 0, 3, 0);
        orderIs("eight", hall, 7, 6, 5, 4, 3, 2, 1, 0);
        // 4 for the first one, 2 for each behind it.
        toldIs("eight", hall, 18, 8 * 4 + 2 * 28, 88);
        hall.tick(4);
        Due.same("eight at work", hall.rig(0, 3), 8);
        Due.same("none waits", hall.count(4), 0);
    }

    /** Terms: "of its ASKS that WAIT the first 8 by number": the ninth is in none. */
    private static void orderOfNine() {
        TapeHall hall = places(60);
        for (int k = 0; k < 8; k++) {
            hall.ask(Halls.READ, 0, 10 - k, 0);
        }
        hall.ask(Halls.URGENT, 0, 0, 0);
        orderIs("nine", hall, 7, 6, 5, 4, 3, 2, 1, 0);
        toldIs("nine", hall, 18, 88, 88);
        Due.same("nine wait", hall.tapeOf(0, 5), 9);
        hall.tick(4);
        Due.same("eight at work", hall.rig(0, 3), 8);
        Due.same("one waits", hall.tapeOf(0, 5), 1);
        orderIs("the ninth", hall, 8);
        Due.same("eight are done", hall.tick(17), 8);
        Due.same("the ninth waits", hall.askOf(8, 2), Halls.WAITS);
    }

    /** Terms: "of its ASKS that WAIT": those that are done leave room for later ones. */
    private static void orderIsOfWaiting() {
        TapeHall hall = places(60);
        hall.ask(Halls.READ, 0, 0, 0);
        hall.tick(10);
        for (int k = 1; k <= 9; k++) {
            hall.ask(Halls.READ, 0, k, 0);
        }
        orderIs("behind one that is done", hall, 1, 2, 3, 4, 5, 6, 7, 8);
    }

    /** Terms: "of several the first, compared ASK by ASK, the lesser number first". */
    private static void orderLesserFirst() {
        TapeHall hall = places(10);
        Halls.ask(hall, Halls.READ, 0, 8);
        orderIs("all alike", hall, 0, 1, 2, 3, 4, 5, 6, 7);
        hall = headAt(20);
        hall.ask(Halls.READ, 0, 25, 0);
        hall.ask(Halls.READ, 0, 15, 0);
        orderIs("up or down alike, up is asked first", hall, 1, 2);
        hall = headAt(20);
        hall.ask(Halls.READ, 0, 15, 0);
        hall.ask(Halls.READ, 0, 25, 0);
        orderIs("up or down alike, down is asked first", hall, 1, 2);
        hall = headAt(20);
        hall.ask(Halls.READ, 0, 15, 0);
        hall.ask(Halls.READ, 0, 24, 0);
        orderIs("one place less goes first", hall, 2, 1);
        hall = places(10);
        hall.ask(Halls.READ, 0, 1, 0);
        hall.ask(Halls.READ, 0, 2, 0);
        hall.ask(Halls.WRITE, 0, 1, 5);
        hall.ask(Halls.URGENT, 0, 2, 0);
        orderIs("alike behind the first one", hall, 0, 2, 1, 3);
    }

    /** 12: "NONE: there are not so many, no such TAPE." */
    private static void othersOfOrder() {
        TapeHall hall = Halls.sideBySide(3);
        hall.ask(Halls.READ, 2, 0, 0);
        Due.same("the last tape", hall.order(2, 0), 0);
        int[] refused = {-1, 3, 11, 12, Halls.LEAST, Halls.GREATEST};
        for (int t : refused) {
            Due.same("tape " + t, hall.order(t, 0), -1);
        }
        int[] others = {-1, 1, 7, 8, Halls.LEAST, Halls.GREATEST};
        for (int i : others) {
            Due.same("number " + i, hall.order(2, i), -1);
        }
    }

    /** 13: "NONE: no such TAPE, another what." */
    private static void othersOfTold() {
        TapeHall hall = Halls.sideBySide(3);
        hall.ask(Halls.READ, 2, 4, 0);
        int[] refused = {-1, 3, 11, 12, Halls.LEAST, Halls.GREATEST};
        for (int t : refused) {
            for (int what = 0; what <= 2; what++) {
                Due.same("tape " + t + " what " + what, hall.told(t, what), -1);
            }
        }
        int[] others = {-1, 3, 4, Halls.LEAST, Halls.GREATEST};
        for (int what : others) {
            Due.same("what " + what, hall.told(2, what), -1);
        }
        Due.same("the first what", hall.told(2, 0), 5);
        Due.same("the last what", hall.told(2, 2), 5);
        Due.same("the last what of a tape without asks", hall.told(0, 2), 0);
    }

    /** 13: the greatest sums that can be told: eight scrubs of sixty places. */
    private static void toldGreatest() {
        TapeHall hall = places(60);
        Halls.ask(hall, Halls.SCRUB, 0, 9);
        // 60 for the first one, 2 + 59 + 2 + 60 for each behind it.
        toldIs("eight scrubs", hall, 60 + 7 * 123, 8 * 60 + 123 * 28, 3924);
        orderIs("eight scrubs", hall, 0, 1, 2, 3, 4, 5, 6, 7);
        Halls.ticks(hall, 3 + 920);
        Due.same("seven are done", hall.count(6), 7);
        Due.same("the last tick", hall.tick(1), 1);
    }

    /** 12, 13: what was told of eight asks leaves nothing behind for one, and the other way about. */
    private static void toldOfFewer() {
        TapeHall hall = Halls.sideBySide(2);
        for (int k = 0; k < 8; k++) {
            hall.ask(Halls.SPAN, 1, 30 - k, 39 - k);
        }
        int cost = hall.told(1, 0);
        int waits = hall.told(1, 2);
        Due.same("the first of eight", hall.order(1, 0), 7);
        toldIs("none", hall, 0, 0, 0);
        hall.ask(Halls.READ, 0, 5, 0);
        toldIs("one", hall, 6, 6, 6);
        orderIs("one", hall, 8);
        hall.ask(Halls.READ, 0, 3, 0);
        toldIs("two", hall, 7, 4 + 7, 11);
        orderIs("two", hall, 9, 8);
        Due.same("cost of the eight still", hall.told(1, 0), cost);
        Due.same("least waits of the eight still", hall.told(1, 2), waits);
        Due.same("the last of the eight still", hall.order(1, 7), 0);
    }

    /** 12, 13: "from its HEAD", as it is at hand: of asks that wait while the tape is at work. */
    private static void toldAsTheHeadMoves() {
        TapeHall hall = places(40);
        hall.ask(Halls.READ, 0, 20, 0);
        hall.tick(4);
        hall.ask(Halls.READ, 0, 15, 0);
        hall.ask(Halls.READ, 0, 0, 0);
        // Put in tick 3: the head comes to 20 in tick 23.
        hall.tick(19);
        orderIs("from 0", hall, 2, 1);
        toldIs("from 0", hall, 17, 1 + 17, 18);
        Due.same("tick 23", hall.tick(1), 1);
        orderIs("from 20", hall, 1, 2);
        toldIs("from 20", hall, 22, 6 + 22, 28);
    }
}
