import java.util.function.IntPredicate;

/** Holds a call against a range of numbers: all within it are taken, all next to it and far off refused. */
final class Edges {
    /** Far numbers, and such as would wrap into a small range by a shift, a byte or a short. */
    private static final int[] FAR = {
        Integer.MIN_VALUE, Integer.MIN_VALUE + 1, -65536, -256, -32, -2, 31, 32, 33, 64, 256, 257, 1002,
        65536, 65537, 1 << 24, Integer.MAX_VALUE - 1, Integer.MAX_VALUE,
    };

    private Edges() {
    }

    /** A greatest below least: nothing is taken. */
    static void due(String range, IntPredicate takes, int least, int greatest) {
        for (int number = least; number <= greatest; number++) {
            Check.due(range + ": " + number + " is taken", takes.test(number), true);
        }
        Check.due(range + ": one below, " + (least - 1), takes.test(least - 1), false);
        int above = Math.max(least, greatest + 1);
        Check.due(range + ": one above, " + above, takes.test(above), false);
        for (int number : FAR) {
            if (number < least || number > greatest) {
                Check.due(range + ": far off, " + number, takes.test(number), false);
            }
        }
    }
}
