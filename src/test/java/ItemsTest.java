/** Promises 17 to 20: items and how they are laid. */
final class ItemsTest {
    public static void main(String[] args) {
        refused();
        alone();
        mostAskedLiesBetween();
        alikeByNumber();
        countsOfNothing();
        eight();
        greatest();
        clears();
        Due.close();
    }

    private static TapeHall items(int... sizesAndCounts) {
        TapeHall hall = new TapeHall();
        for (int i = 0; i < sizesAndCounts.length; i += 2) {
            Due.same("item", hall.item(sizesAndCounts[i], sizesAndCounts[i + 1]), i / 2);
        }
        return hall;
    }

    private static void layIs(String name, TapeHall hall, long winding, long... begins) {
        Due.same(name + " laid", hall.laid(), winding);
        for (int i = 0; i < begins.length; i++) {
            Due.same(name + " begins " + i, hall.begins(i), begins[i]);
        }
        Due.same(name + " begins behind", hall.begins(begins.length), -1);
    }

    private static void refused() {
        TapeHall hall = new TapeHall();
        Due.same("size 0", hall.item(0, 5), -1);
        Due.same("size 51", hall.item(51, 5), -1);
        Due.same("count -1", hall.item(5, -1), -1);
        Due.same("count 1001", hall.item(5, 1001), -1);
        Due.same("extremes", hall.item(Integer.MIN_VALUE, Integer.MAX_VALUE), -1);
        Due.same("none came", hall.count(10), 0);
        layIs("none", hall, 0);
        Due.same("begins -1", hall.begins(-1), -1);
        Due.same("begins far off", hall.begins(Integer.MAX_VALUE), -1);
        Due.same("least", hall.item(1, 0), 0);
        Due.same("greatest", hall.item(50, 1000), 1);
        Due.same("two came", hall.count(10), 2);
    }

    private static void alone() {
        layIs("one", items(7, 9), 0, 0);
        // The one of two is as far from the other as it is long: the shorter one lies first.
        layIs("two", items(7, 2, 3, 5), 30, 3, 0);
        layIs("two alike", items(3, 2, 3, 5), 30, 0, 3);
    }

    /** Three of one size: the pair that has the least product lies apart. */
    private static void mostAskedLiesBetween() {
        // 0 1 2: 10 * 1 + 10 * 1 and 2 * 1 * 1.
        layIs("between", items(1, 1, 1, 10, 1, 1), 22, 0, 1, 2);
        layIs("between, moved", items(1, 10, 1, 1, 1, 1), 22, 1, 0, 2);
    }

    private static void alikeByNumber() {
        layIs("all alike", items(4, 3, 4, 3, 4, 3, 4, 3), 9 * 4 * 10, 0, 4, 8, 12);
    }

    private static void countsOfNothing() {
        layIs("counts of 0", items(9, 0, 2, 0, 5, 0), 0, 0, 9, 11);
        // With one that counts no order winds: the first by number stands.
        layIs("one counts", items(9, 0, 2, 7, 5, 0), 0, 0, 9, 11);
        // 1 and 2 count: what is long must not lie between, nor the long one of them first.
        layIs("two count", items(50, 0, 20, 3, 4, 5), 60, 0, 54, 50);
    }

    private static void eight() {
        TapeHall hall = items(1, 1, 1, 1, 1, 1, 1, 1, 1, 1, 1, 1, 1, 1, 1, 1);
        Due.same("a ninth", hall.item(1, 1), -1);
        Due.same("eight", hall.count(10), 8);
        // Distances 1 .. 7 of 7 .. 1 pairs.
        layIs("eight", hall, 84, 0, 1, 2, 3, 4, 5, 6, 7);
    }

    /** The winding is more than an int holds: 84 distances of 50, each counted a million times. */
    private static void greatest() {
        TapeHall hall = new TapeHall();
        for (int i = 0; i < 8; i++) {
            hall.item(50, 1000);
        }
        Due.same("greatest", hall.laid(), 84L * 50 * 1000 * 1000);
        Due.same("the last one", hall.begins(7), 350);
    }

    private static void clears() {
        TapeHall hall = items(10, 1, 1, 5, 5, 2);
        layIs("three", hall, 50, 6, 0, 1);
        Due.same("clear", hall.clear(), 3);
        Due.same("clear again", hall.clear(), 0);
        Due.same("none", hall.count(10), 0);
        layIs("cleared", hall, 0);
        Due.same("numbered anew", hall.item(2, 2), 0);
        Due.same("the second", hall.item(1, 3), 1);
        layIs("anew", hall, 6, 1, 0);
        Due.same("a third", hall.item(1, 0), 2);
        // The third counts for nothing, but may not lie between: 1 0 2 is behind 1 0, ahead is 1 2 0.
        layIs("one more", hall, 6, 1, 0, 3);
        Due.same("clear three", hall.clear(), 3);
    }
}
