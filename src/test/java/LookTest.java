/** Promises 5, 6 and 11: bound, profile, look. */
public final class LookTest {
    private static final int NONE = PaperSetter.NONE;

    public static void main(String[] args) {
        boundsAtFirst();
        boundRefused();
        boundEdges();
        profiles();
        sums();
        fitSets();
        papers();
        others();
        Check.end();
    }

    /** TOPICS 0 to 3, SKILLS 0, 1, 2, 0; minutes 10, 20, 30, 40; marks 1, 2, 4, 8. */
    private static PaperSetter four() {
        PaperSetter x = new PaperSetter();
        for (int q = 0; q < 4; q++) {
            x.question(q, q % 3, 10 * (q + 1), 1 << q, 5);
        }
        return x;
    }

    private static void boundsAtFirst() {
        PaperSetter x = new PaperSetter();
        for (int q = 0; q < 24; q++) {
            x.question(0, 0, 60, 40, 1);
        }
        Check.due("MINUTES of all", x.look((1 << 24) - 1, 11), 1440);
        Check.due("BOUNDS broken by all", x.look((1 << 24) - 1, 3), 1 << 1);
        Check.due("BOUNDS broken by 16", x.look((1 << 16) - 1, 3), 0);
        Check.due("BOUNDS broken by 17", x.look((1 << 17) - 1, 3), 1 << 1);
    }

    private static void boundRefused() {
        PaperSetter x = four();
        int[][] wrong = {
            {-1, 0, 1}, {10, 0, 1}, {0, -1, 1}, {0, 0, 1001}, {0, 1001, 1001}, {0, 2, 1},
            {0, 0, -1}, {0, Integer.MIN_VALUE, Integer.MAX_VALUE}, {Integer.MAX_VALUE, 0, 0},
        };
        x.bound(0, 3, 3);
        for (int[] w : wrong) {
            Check.due("bound(" + w[0] + ", " + w[1] + ", " + w[2] + ")", x.bound(w[0], w[1], w[2]), false);
        }
        Check.due("BOUND 0 stays", x.look(7, 3), 0);
        Check.due("BOUND 0 stays, least", x.look(3, 3), 1);
        Check.due("BOUND 0 stays, greatest", x.look(15, 3), 1);
    }

    private static void boundEdges() {
        for (int b = 0; b < 10; b++) {
            PaperSetter x = four();
            int sum = x.look(13, 10 + b);
            Check.due("bound " + b + " of just the sum", x.bound(b, sum, sum), true);
            Check.due("just the sum is within " + b, x.look(13, 3), 0);
            Check.due("bound " + b + " above the sum", x.bound(b, sum + 1, 1000), true);
            Check.due("the sum is below " + b, x.look(13, 3), 1 << b);
            if (sum > 0) {
                x.bound(b, 0, sum - 1);
                Check.due("the sum is above " + b, x.look(13, 3), 1 << b);
            }
            Check.due("bound(" + b + ", 1000, 1000)", x.bound(b, 1000, 1000), true);
            Check.due("bound(" + b + ", 0, 0)", x.bound(b, 0, 0), true);
            Check.due("the empty set is within " + b, x.look(0, 3), 0);
        }
    }

    private static void profiles() {
        PaperSetter x = four();
        Check.due("SPREAD at first", x.look(15, 2), 15);
        for (int topic = 0; topic < 4; topic++) {
            Check.due("profile", x.profile(topic, 1000), true);
        }
        Check.due("SPREAD of the empty set", x.look(0, 2), 4000);
        Check.due("SPREAD below what is wished", x.look(15, 2), 3985);
        x.profile(0, 3);
        x.profile(1, 0);
        x.profile(2, 4);
        x.profile(3, 7);
        Check.due("SPREAD both ways", x.look(15, 2), 2 + 2 + 0 + 1);
        Check.due("SPREAD of one", x.look(2, 2), 3 + 2 + 4 + 7);
        Check.due("profile(4, 0)", x.profile(4, 0), false);
        Check.due("profile(-1, 0)", x.profile(-1, 0), false);
        Check.due("profile(0, -1)", x.profile(0, -1), false);
        Check.due("profile(0, 1001)", x.profile(0, 1001), false);
        Check.due("SPREAD behind refusals", x.look(15, 2), 5);
    }

    private static void sums() {
        PaperSetter x = four();
        int[] all = {4, 100, 15, 1, 2, 4, 8, 9, 2, 4};
        int[] two = {2, 60, 10, 0, 2, 0, 8, 8, 2, 0};
        for (int b = 0; b < 10; b++) {
            Check.due("look(15, " + (10 + b) + ")", x.look(15, 10 + b), all[b]);
            Check.due("look(10, " + (10 + b) + ")", x.look(10, 10 + b), two[b]);
        }
    }

    private static void fitSets() {
        PaperSetter x = four();
        x.passage(1, 4);
        x.passage(3, 4);
        Check.due("without the PASSAGE", x.look(5, 0), 1);
        Check.due("half the PASSAGE", x.look(7, 0), 0);
        Check.due("all of the PASSAGE", x.look(10, 0), 1);
        x.gives(3, 1, true);
        Check.due("a PASSAGE that gives itself away", x.look(10, 0), 0);
        x.gives(3, 1, false);
        x.rest(1);
        x.use(8);
        x.term();
        Check.due("half the PASSAGE RESTS, whole", x.look(10, 0), 0);
        Check.due("half the PASSAGE RESTS, half", x.look(2, 0), 0);
        Check.due("the empty set", x.look(0, 0), 1);
    }

    private static void papers() {
        PaperSetter x = four();
        Check.due("a PAPER", x.look(15, 1), 1);
        x.bound(0, 1, 3);
        x.bound(9, 0, 3);
        Check.due("no PAPER, above two BOUNDS", x.look(15, 1), 0);
        Check.due("those BOUNDS", x.look(15, 3), 1 << 0 | 1 << 9);
        Check.due("it is FIT still", x.look(15, 0), 1);
        Check.due("the empty set is no PAPER", x.look(0, 1), 0);
        x.gives(0, 1, true);
        Check.due("within all BOUNDS, not FIT", x.look(3, 1), 0);
        Check.due("it breaks none", x.look(3, 3), 0);
    }

    private static void others() {
        PaperSetter x = four();
        int[] wrong = {-1, 4, 9, 20, Integer.MIN_VALUE, Integer.MAX_VALUE};
        for (int what : wrong) {
            Check.due("look(1, " + what + ")", x.look(1, what), NONE);
        }
        int[] right = {0, 1, 2, 3, 10, 19};
        for (int what : right) {
            Check.due("look(16, " + what + ")", x.look(16, what), NONE);
            Check.due("look(-1, " + what + ")", x.look(-1, what), NONE);
            Check.due("look(least, " + what + ")", x.look(Integer.MIN_VALUE, what), NONE);
        }
    }
}
