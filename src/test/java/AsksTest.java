/** Promises 5, 11, 12, 13: asks, the order of least ticks, what it is told to cost. */
final class AsksTest {
    public static void main(String[] args) {
        toldOfAsks();
        results();
        failed();
        turns();
        wayIsKept();
        spanTurnsBack();
        alikeByNumber();
        leastWaitsBesideLeastCost();
        headAfterWork();
        Due.close();
    }

    private static TapeHall tape(int places) {
        TapeHall hall = new TapeHall();
        hall.settings(-1000, 1000);
        hall.tape(0, 3, places);
        return hall;
    }

    private static void toldOfAsks() {
        TapeHall hall = tape(10);
        hall.tick(6);
        hall.ask(Halls.WRITE, 0, 4, -77);
        Due.same("kind", hall.askOf(0, 0), Halls.WRITE);
        Due.same("tape", hall.askOf(0, 1), 0);
        Due.same("waits", hall.askOf(0, 2), 0);
        Due.same("tick", hall.askOf(0, 3), 6);
        Due.same("not ended", hall.askOf(0, 4), -1);
        Due.same("no result yet", hall.askOf(0, 5), 0);
        Due.same("a", hall.askOf(0, 6), 4);
        Due.same("b", hall.askOf(0, 7), -77);
    }

    /** All at home 0 with a reader there: writes, then the asks that read what they left. */
    private static void results() {
        TapeHall hall = tape(5);
        hall.reader(0);
        hall.ask(Halls.WRITE, 0, 1, 7);
        hall.ask(Halls.WRITE, 0, 3, -2);
        hall.tick(40);
        hall.ask(Halls.WRITE, 0, 3, 100);
        Due.same("no result ahead of it", hall.askOf(2, 5), 0);
        hall.tick(40);
        hall.ask(Halls.READ, 0, 1, 0);
        hall.ask(Halls.SPAN, 0, 1, 3);
        hall.ask(Halls.SCRUB, 0, 0, 0);
        hall.ask(Halls.URGENT, 0, 3, 0);
        hall.tick(100);
        Due.same("what was there at first", hall.askOf(0, 5), 0);
        Due.same("what was there", hall.askOf(2, 5), -2);
        Due.same("read", hall.askOf(3, 5), 7);
        Due.same("span", hall.askOf(4, 5), 107);
        Due.same("scrub", hall.askOf(5, 5), 107);
        Due.same("urgent", hall.askOf(6, 5), 100);
        Due.same("all done", hall.count(6), 7);
        Due.same("none failed", hall.count(7), 0);
    }

    private static void failed() {
        TapeHall hall = new TapeHall();
        hall.tape(0, 4, 5);
        hall.reader(0);
        hall.ask(Halls.WRITE, 0, 2, 9);
        hall.ask(Halls.READ, 0, 2, 0);
        // Taken in tick 2, put in tick 3: the write takes ticks 3 to 5, the read tick 6.
        Due.same("the job, an arm's way, the take", hall.tick(3), 0);
        Due.same("two asks", hall.tick(4), 2);
        Due.same("failed", hall.askOf(0, 2), 3);
        Due.same("failed in", hall.askOf(0, 4), 5);
        Due.same("without a result", hall.askOf(1, 5), 0);
        Due.same("failed, too", hall.askOf(1, 4), 6);
        Due.same("head", hall.tapeOf(0, 3), 2);
        Due.same("done", hall.count(6), 0);
        Due.same("two failed", hall.count(7), 2);
        Due.same("ages of failed ones", hall.count(8), 11);
        Due.same("greatest age", hall.count(9), 6);
    }

    private static void toldIs(String name, TapeHall hall, int cost, int waits, int leastWaits) {
        Due.same(name + " cost", hall.told(0, 0), cost);
        Due.same(name + " waits", hall.told(0, 1), waits);
        Due.same(name + " least waits", hall.told(0, 2), leastWaits);
        Due.same(name + " cost again", hall.told(0, 0), cost);
    }

    private static void orderIs(String name, TapeHall hall, int... order) {
        for (int i = 0; i < order.length; i++) {
            Due.same(name + " order " + i, hall.order(0, i), order[i]);
        }
        Due.same(name + " order behind", hall.order(0, order.length), -1);
        Due.same(name + " order -1", hall.order(0, -1), -1);
    }

    /** A tape of 40 places whose head the one ask that has been done has left at place. */
    private static TapeHall headAt(int place) {
        TapeHall hall = tape(40);
        hall.reader(0);
        hall.ask(Halls.READ, 0, place, 0);
        hall.tick(100);
        Due.same("head", hall.tapeOf(0, 3), place);
        return hall;
    }

    private static void turns() {
        TapeHall hall = headAt(20);
        hall.ask(Halls.READ, 0, 15, 0);
        hall.ask(Halls.READ, 0, 25, 0);
        // 6 and 2 + 10 + 1 either way: alike, the lesser number first.
        toldIs("turn", hall, 19, 25, 25);
        orderIs("turn", hall, 1, 2);
        hall = headAt(20);
        hall.ask(Halls.READ, 0, 10, 0);
        toldIs("from way 0 no turn", hall, 11, 11, 11);
    }

    /** An ask where the head is leaves the way as it was: the turn is still to be paid. */
    private static void wayIsKept() {
        TapeHall hall = headAt(10);
        hall.ask(Halls.READ, 0, 5, 0);
        hall.ask(Halls.WRITE, 0, 5, 1);
        hall.ask(Halls.READ, 0, 7, 0);
        // 7 first: 4, 3, 1. 5 first: 6, 1, 2 + 3.
        toldIs("way kept", hall, 8, 4 + 7 + 8, 19);
        orderIs("way kept", hall, 3, 1, 2);
        hall = headAt(10);
        hall.ask(Halls.READ, 0, 5, 0);
        hall.ask(Halls.WRITE, 0, 5, 1);
        hall.ask(Halls.SPAN, 0, 5, 6);
        hall.ask(Halls.READ, 0, 39, 0);
        // 6, 1, 2 + 2 on the way 1, 34.
        toldIs("span turns where it begins", hall, 45, 6 + 7 + 11 + 45, 69);
        orderIs("span turns where it begins", hall, 1, 2, 3, 4);
    }

    private static void spanTurnsBack() {
        TapeHall hall = headAt(10);
        hall.ask(Halls.SPAN, 0, 5, 10);
        // 5 back, a turn, 6 places.
        toldIs("wound back to", hall, 13, 13, 13);
        hall.ask(Halls.READ, 0, 10, 0);
        // The read first or last costs alike, and the lesser number goes first, though it waits longer.
        orderIs("and where the head is", hall, 1, 2);
        toldIs("and where the head is", hall, 14, 13 + 14, 1 + 14);
    }

    private static void alikeByNumber() {
        TapeHall hall = tape(10);
        hall.ask(Halls.READ, 0, 5, 0);
        hall.ask(Halls.URGENT, 0, 5, 0);
        hall.ask(Halls.WRITE, 0, 5, 3);
        hall.ask(Halls.READ, 0, 3, 0);
        orderIs("alike", hall, 3, 0, 1, 2);
        toldIs("alike", hall, 9, 4 + 7 + 8 + 9, 28);
    }

    private static void leastWaitsBesideLeastCost() {
        TapeHall hall = tape(60);
        hall.ask(Halls.SPAN, 0, 0, 40);
        hall.ask(Halls.READ, 0, 41, 0);
        hall.ask(Halls.READ, 0, 3, 0);
        // 3 first: 4, then back to 0 with a turn, a turn and the span: 2 + 3 + 2 + 41, then 2.
        orderIs("least cost", hall, 2, 0, 1);
        toldIs("least cost", hall, 4 + 48 + 2, 4 + 52 + 54, 110);
        hall = headAt(20);
        hall.ask(Halls.READ, 0, 0, 0);
        hall.ask(Halls.READ, 0, 39, 0);
        hall.ask(Halls.READ, 0, 38, 0);
        // 38, 39, 0: 19, 2, 42. 39, 38, 0: 20, 4, 39, alike. 0 first: 21, 41, 2.
        orderIs("up first", hall, 2, 3, 1);
        toldIs("up first", hall, 63, 20 + 24 + 63, 19 + 21 + 63);
        hall = headAt(20);
        hall.ask(Halls.SPAN, 0, 21, 39);
        hall.ask(Halls.READ, 0, 10, 0);
        // Up first: 20, then 2 + 29 + 1. Down first: 11, then 2 + 11 + 19.
        orderIs("down first costs less", hall, 2, 1);
        toldIs("down first costs less", hall, 43, 54, 54);
        hall = headAt(20);
        hall.ask(Halls.SPAN, 0, 8, 38);
        hall.ask(Halls.READ, 0, 39, 0);
        // The span first: 12 + 2 + 31, 2. The read first: 20, then 2 + 31 + 2 + 31.
        orderIs("the span first", hall, 1, 2);
        toldIs("the span first", hall, 47, 45 + 47, 92);
        hall = headAt(20);
        hall.ask(Halls.SPAN, 0, 1, 38);
        hall.ask(Halls.READ, 0, 39, 0);
        hall.ask(Halls.READ, 0, 39, 0);
        hall.ask(Halls.READ, 0, 39, 0);
        // The span first: 19 + 2 + 38, 2, 1, 1. The reads first: 20, 1, 1, then 2 + 38 + 2 + 38.
        orderIs("waits apart", hall, 1, 2, 3, 4);
        toldIs("waits apart", hall, 63, 59 + 61 + 62 + 63, 20 + 21 + 22 + 102);
    }

    private static void headAfterWork() {
        TapeHall hall = headAt(30);
        hall.ask(Halls.READ, 0, 29, 0);
        hall.ask(Halls.READ, 0, 0, 0);
        orderIs("from the head it has", hall, 1, 2);
        toldIs("from the head it has", hall, 2 + 30, 2 + 32, 34);
        Due.same("told of it in the order", hall.told(0, 0), 32);
        hall.ask(Halls.READ, 0, 30, 0);
        orderIs("one more ask", hall, 3, 1, 2);
        toldIs("one more ask", hall, 33, 1 + 3 + 33, 37);
    }
}
