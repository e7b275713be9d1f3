/**
 * What the document says at the edges of promises 17 to 20 and of LAYING. Above each test stands the
 * sentence that it would see broken.
 */
final class ItemEdgesTest {
    public static void main(String[] args) {
        sizes();
        counts();
        eightItems();
        refusedTakesNoNumber();
        laidWithout();
        laidAlone();
        laidOfNoCounts();
        laidGreatest();
        laidAgain();
        beginsWhereTheOneAheadEnds();
        likeOnesByNumber();
        othersOfBegins();
        refusedLeavesThemLaid();
        clearWithout();
        clearOfAll();
        eightAgain();
        Due.close();
    }

    /** 17: "NONE: other numbers"; LAYING: "a SIZE (1 to 50)". */
    private static void sizes() {
        TapeHall hall = new TapeHall();
        int[] refused = {0, -1, 51, 52, Halls.LEAST, Halls.GREATEST};
        for (int size : refused) {
            Due.same("size " + size, hall.item(size, 5), -1);
        }
        Due.same("none came", hall.count(10), 0);
        Due.same("size 50", hall.item(50, 5), 0);
        Due.same("size 1", hall.item(1, 5), 1);
        // The second one ahead: its size lies between.
        Halls.layIs("of the sizes taken", hall, 25, 1, 0);
    }

    /** 17: "NONE: other numbers"; LAYING: "a COUNT (0 to 1000)". */
    private static void counts() {
        TapeHall hall = new TapeHall();
        int[] refused = {-1, -2, 1001, 1002, Halls.LEAST, Halls.GREATEST};
        for (int count : refused) {
            Due.same("count " + count, hall.item(5, count), -1);
        }
        Due.same("none came", hall.count(10), 0);
        Due.same("count 0", hall.item(5, 0), 0);
        Due.same("count 1000", hall.item(5, 1000), 1);
        Due.same("count 1", hall.item(5, 1), 2);
        // 1 and 2 beside one another, wherever 0 is.
        Halls.layIs("of the counts taken", hall, 5 * 1000, 0, 5, 10);
    }

    /** 17: "eight are there"; LAYING: "ITEMS (at most 8, numbered as they come)". */
    private static void eightItems() {
        TapeHall hall = new TapeHall();
        for (int i = 0; i < 8; i++) {
            Due.same("item " + i, hall.item(1, 1), i);
        }
        Due.same("a ninth", hall.item(1, 1), -1);
        Due.same("a ninth that counts nothing", hall.item(50, 0), -1);
        Due.same("eight", hall.count(10), 8);
        // Distances 1 .. 7 of 7 .. 1 pairs.
        Halls.layIs("eight", hall, 84, 0, 1, 2, 3, 4, 5, 6, 7);
    }

    /** "A refused call changes nothing": the next item has the next number. */
    private static void refusedTakesNoNumber() {
        TapeHall hall = new TapeHall();
        Due.same("the first", hall.item(2, 2), 0);
        Due.same("refused by its size", hall.item(51, 2), -1);
        Due.same("refused by its count", hall.item(2, 1001), -1);
        Due.same("the second", hall.item(2, 2), 1);
        Halls.layIs("two", hall, 8, 0, 2);
    }

    /** 18: "The WINDING of the ITEMS as they are LAID (0 without)." */
    private static void laidWithout() {
        Halls.layIs("none", new TapeHall(), 0);
        Due.same("none, asked again", new TapeHall().laid(), 0);
    }

    /** LAYING: "over all pairs of ITEMS": one alone has none; "the first one at 0". */
    private static void laidAlone() {
        Halls.layIs("the least", Halls.items(1, 0), 0, 0);
        Halls.layIs("the greatest", Halls.items(50, 1000), 0, 0);
    }

    /** LAYING: "COUNT times COUNT", one of them 0: no order winds less than another, so the first stands. */
    private static void laidOfNoCounts() {
        Halls.layIs("all count nothing", Halls.items(9, 0, 2, 0, 5, 0), 0, 0, 9, 11);
        Halls.layIs("one counts", Halls.items(9, 0, 2, 1000, 5, 0), 0, 0, 9, 11);
        // 1 2 0 and 2 0 1 part the two by 4 alone, and 1 goes first.
        Halls.layIs("two count", Halls.items(20, 3, 50, 0, 4, 5), 60, 54, 0, 50);
    }

    /** 18: a winding that no int holds: 84 distances of 50, each counted a million times. */
    private static void laidGreatest() {
        TapeHall hall = new TapeHall();
        for (int i = 0; i < 8; i++) {
            hall.item(50, 1000);
        }
        Halls.layIs("greatest", hall, 4_200_000_000L, 0, 50, 100, 150, 200, 250, 300, 350);
    }

    /** 18, 19: asked again they answer alike, and of one item more anew. */
    private static void laidAgain() {
        TapeHall hall = Halls.items(3, 2, 7, 5);
        Halls.layIs("two", hall, 30, 0, 3);
        Halls.layIs("again", hall, 30, 0, 3);
        Due.same("one more", hall.item(1, 9), 2);
        Due.same("begins is anew, ahead of laid", hall.begins(2), 3);
        // 0 2 1: 3 * 18 and 1 * 45, 4 * 10.
        Halls.layIs("three", hall, 54 + 45 + 40, 0, 4, 3);
    }

    /** LAYING: "each begins where the one ahead ends, the first one at 0". */
    private static void beginsWhereTheOneAheadEnds() {
        TapeHall hall = Halls.items(50, 1, 50, 1, 50, 1, 50, 1, 50, 1, 50, 1, 50, 1, 1, 1);
        // The short one is laid fourth, where it parts 4 times 4 pairs; the others 7, 12, 15, 15, 12, 7 and none.
        Halls.layIs("seven long ones", hall, 50 * 68 + 16, 0, 50, 100, 151, 201, 251, 301, 150);
    }

    /** LAYING: "of several the first, compared ITEM by ITEM, the lesser number first". */
    private static void likeOnesByNumber() {
        Halls.layIs("two alike", Halls.items(3, 2, 3, 2), 12, 0, 3);
        Halls.layIs("all alike", Halls.items(4, 3, 4, 3, 4, 3, 4, 3), 9 * 4 * 10, 0, 4, 8, 12);
        // 0 1 2 and 2 1 0 wind alike, 1 between them.
        Halls.layIs("there and back alike", Halls.items(1, 1, 1, 10, 1, 1), 22, 0, 1, 2);
        Halls.layIs("the one between is the first by number", Halls.items(1, 10, 1, 1, 1, 1), 22, 1, 0, 2);
        Halls.layIs("one tick less goes first", Halls.items(4, 2, 3, 2), 12, 3, 0);
    }

    /** 19: "NONE: no such ITEM." */
    private static void othersOfBegins() {
        TapeHall hall = new TapeHall();
        int[] refused = {-1, 0, 1, 7, 8, Halls.LEAST, Halls.GREATEST};
        for (int i : refused) {
            Due.same("none is there: " + i, hall.begins(i), -1);
        }
        for (int size = 1; size <= 8; size++) {
            hall.item(1, 1);
            Due.same("the last of " + size, hall.begins(size - 1), size - 1);
            Due.same("behind the last of " + size, hall.begins(size), -1);
        }
        Due.same("ahead of eight", hall.begins(-1), -1);
        Due.same("the greatest", hall.begins(Halls.GREATEST), -1);
    }

    /** "A refused call changes nothing": neither the items nor how they are laid. */
    private static void refusedLeavesThemLaid() {
        TapeHall hall = Halls.items(10, 1, 1, 5, 5, 2);
        Halls.layIs("three", hall, 50, 6, 0, 1);
        Due.same("size 0", hall.item(0, 1), -1);
        Due.same("count 1001", hall.item(1, 1001), -1);
        Due.same("no such item", hall.begins(3), -1);
        Halls.layIs("three still", hall, 50, 6, 0, 1);
        Due.same("three still", hall.count(10), 3);
    }

    /** 20: "There are no ITEMS: how many there were", none. */
    private static void clearWithout() {
        TapeHall hall = new TapeHall();
        Due.same("none", hall.clear(), 0);
        Due.same("none again", hall.clear(), 0);
        Halls.layIs("none", hall, 0);
    }

    /** 20: "There are no ITEMS: how many there were", one and all eight. */
    private static void clearOfAll() {
        TapeHall hall = Halls.items(50, 1000);
        Due.same("one", hall.clear(), 1);
        hall = Halls.items(2, 2, 2, 2, 2, 2, 2, 2, 2, 2, 2, 2, 2, 2, 2, 2);
        Due.same("laid", hall.laid(), 84 * 8);
        Due.same("eight", hall.clear(), 8);
        Due.same("no items", hall.count(10), 0);
        for (int i = 0; i < 8; i++) {
            Due.same("no item " + i, hall.begins(i), -1);
        }
        Halls.layIs("none", hall, 0);
        Due.same("none any more", hall.clear(), 0);
    }

    /** 20: behind it there is room for eight again, numbered as they come, with nothing of the old ones. */
    private static void eightAgain() {
        TapeHall hall = Halls.items(50, 1000, 50, 1000, 50, 1000, 50, 1000, 50, 1000, 50, 1000, 50, 1000, 50, 1000);
        Due.same("laid", hall.laid(), 4_200_000_000L);
        Due.same("eight", hall.clear(), 8);
        Due.same("the first anew", hall.item(1, 1), 0);
        Halls.layIs("one", hall, 0, 0);
        Due.same("the second anew", hall.item(1, 1), 1);
        Halls.layIs("two", hall, 1, 0, 1);
        for (int i = 2; i < 8; i++) {
            Due.same("item " + i + " anew", hall.item(1, 1), i);
        }
        Due.same("a ninth", hall.item(1, 1), -1);
        Halls.layIs("eight", hall, 84, 0, 1, 2, 3, 4, 5, 6, 7);
    }
}
