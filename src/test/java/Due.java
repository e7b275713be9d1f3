/** Counts the answers that are not due; a test ends with {@link #close}. */
final class Due {
    private static int looked = 0;
    private static int wrong = 0;

    private Due() {
    }

    static void same(String call, long got, long want) {
        looked++;
        if (got != want) {
            wrong++;
            System.out.println(call + " answered " + got + ", due is " + want);
        }
    }

    static void yes(String call, boolean got) {
        same(call, got ? 1 : 0, 1);
    }

    static void no(String call, boolean got) {
        same(call, got ? 1 : 0, 0);
    }

    /** The answers of one call for 0, 1, 2 .. in a row. */
    static void row(String call, long[] got, long... want) {
        same(call + " has so many", got.length, want.length);
        for (int i = 0; i < want.length && i < got.length; i++) {
            same(call + " at " + i, got[i], want[i]);
        }
    }

    static void close() {
        System.out.println(looked + " answers looked at, " + wrong + " wrong");
        if (wrong != 0 || looked == 0) {
            System.exit(1);
        }
    }
}
