/** Promises 17 to 20: items and how they are laid. */
final class ItemsTest {
    public static void main(String[] args) {
        alone();
        mostAskedLiesBetween();
        clears();
        Due.close();
    }

    private static void alone() {
        Halls.layIs("one", Halls.items(7, 9), 0, 0);
        // The one of two is as far from the other as it is long: the shorter one lies first.
        Halls.layIs("two", Halls.items(7, 2, 3, 5), 30, 3, 0);
        Halls.layIs("two alike", Halls.items(3, 2, 3, 5), 30, 0, 3);
    }

    /** Three of one size: the pair that has the least product lies apart. */
    private static void mostAskedLiesBetween() {
        // 0 1 2: 10 * 1 + 10 * 1 and 2 * 1 * 1.
        Halls.layIs("between", Halls.items(1, 1, 1, 10, 1, 1), 22, 0, 1, 2);
        Halls.layIs("between, moved", Halls.items(1, 10, 1, 1, 1, 1), 22, 1, 0, 2);
    }

    private static void clears() {
        TapeHall hall = Halls.items(10, 1, 1, 5, 5, 2);
        Halls.layIs("three", hall, 50, 6, 0, 1);
        Due.same("clear", hall.clear(), 3);
        Due.same("clear again", hall.clear(), 0);
        Due.same("none", hall.count(10), 0);
        Halls.layIs("cleared", hall, 0);
        Due.same("numbered anew", hall.item(2, 2), 0);
        Due.same("the second", hall.item(1, 3), 1);
        Halls.layIs("anew", hall, 6, 1, 0);
        Due.same("a third", hall.item(1, 0), 2);
        // The third counts for nothing, but may not lie between: 1 0 2 is behind 1 0, ahead is 1 2 0.
        Halls.layIs("one more", hall, 6, 1, 0, 3);
        Due.same("clear three", hall.clear(), 3);
    }
}
