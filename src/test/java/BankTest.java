/** Promises 1 to 4, 18 and 19: a new object, question, passage, gives, told, count. */
public final class BankTest {
    private static final int NONE = PaperSetter.NONE;

    public static void main(String[] args) {
        newObject();
        questionNumbers();
        questionEdges();
        questionRefused();
        passages();
        givesAway();
        toldFacts();
        toldOthers();
        counts();
        Check.end();
    }

    private static void newObject() {
        PaperSetter x = new PaperSetter();
        Check.due("count(0) of a new object", x.count(0), 0);
        Check.due("count(1) of a new object", x.count(1), 0);
        Check.due("count(2) of a new object", x.count(2), 1);
        Check.due("count(3) of a new object", x.count(3), 0);
        Check.due("count(4) of a new object", x.count(4), 0);
        Check.due("count(5) of a new object", x.count(5), 0);
        Check.due("second() of a new object", x.second(), 0);
        Check.due("place(0) of a new object", x.place(0), NONE);
        Check.due("rests(0) of a new object", x.rests(0), NONE);
        for (int b = 0; b < 10; b++) {
            Check.due("empty set's sum " + b, x.look(0, 10 + b), 0);
        }
        Check.due("empty set's SPREAD", x.look(0, 2), 0);
        Check.due("empty set's broken BOUNDS", x.look(0, 3), 0);
    }

    private static void questionNumbers() {
        PaperSetter x = new PaperSetter();
        for (int q = 0; q < 24; q++) {
            Check.due("question number " + q, x.question(q % 4, q % 3, q + 1, q + 2, q % 9 + 1), q);
        }
        Check.due("a 25th question", x.question(0, 0, 1, 1, 1), NONE);
        Check.due("count(0) when full", x.count(0), 24);
        Check.due("the last one's minutes", x.told(23, 2), 24);
    }

    private static void questionEdges() {
        PaperSetter x = new PaperSetter();
        Check.due("least numbers", x.question(0, 0, 1, 1, 1), 0);
        Check.due("greatest numbers", x.question(3, 2, 60, 40, 9), 1);
    }

    private static void questionRefused() {
        PaperSetter x = new PaperSetter();
        int[][] wrong = {
            {-1, 0, 1, 1, 1}, {4, 0, 1, 1, 1}, {0, -1, 1, 1, 1}, {0, 3, 1, 1, 1},
            {0, 0, 0, 1, 1}, {0, 0, 61, 1, 1}, {0, 0, 1, 0, 1}, {0, 0, 1, 41, 1},
            {0, 0, 1, 1, 0}, {0, 0, 1, 1, 10}, {Integer.MIN_VALUE, 0, 1, 1, 1},
            {0, Integer.MAX_VALUE, 1, 1, 1}, {0, 0, Integer.MIN_VALUE, 1, 1},
        };
        for (int[] w : wrong) {
            Check.due("wrong question", x.question(w[0], w[1], w[2], w[3], w[4]), NONE);
        }
        Check.due("count(0) behind wrong questions", x.count(0), 0);
    }

    private static void passages() {
        PaperSetter x = new PaperSetter();
        Check.due("passage of no question", x.passage(0, 0), false);
        x.question(0, 0, 1, 1, 1);
        x.question(0, 0, 1, 1, 1);
        Check.due("passage(0, 5)", x.passage(0, 5), true);
        Check.due("told(0, 5)", x.told(0, 5), 5);
        Check.due("passage(0, 5) again", x.passage(0, 5), true);
        Check.due("passage(0, 6)", x.passage(0, 6), false);
        Check.due("passage(0, -2)", x.passage(0, -2), false);
        Check.due("passage(2, 0)", x.passage(2, 0), false);
        Check.due("passage(-1, 0)", x.passage(-1, 0), false);
        Check.due("told(0, 5) behind refusals", x.told(0, 5), 5);
        Check.due("passage(0, 0)", x.passage(0, 0), true);
        Check.due("told(0, 5) of PASSAGE 0", x.told(0, 5), 0);
        Check.due("half a PASSAGE of one", x.look(1, 0), 1);
        x.passage(1, 0);
        Check.due("half a PASSAGE of two", x.look(1, 0), 0);
        Check.due("passage(0, NONE)", x.passage(0, NONE), true);
        Check.due("told(0, 5) of none", x.told(0, 5), NONE);
        Check.due("look behind leaving", x.look(1, 0), 1);
    }

    private static void givesAway() {
        PaperSetter x = new PaperSetter();
        for (int q = 0; q < 3; q++) {
            x.question(0, 0, 1, 1, 1);
        }
        Check.due("gives(0, 1, false) at first", x.gives(0, 1, false), false);
        Check.due("gives(0, 1, true)", x.gives(0, 1, true), true);
        Check.due("gives(0, 1, true) again", x.gives(0, 1, true), false);
        Check.due("look(3, 0)", x.look(3, 0), 0);
        Check.due("look(5, 0)", x.look(5, 0), 1);
        Check.due("gives(1, 0, true), the other way", x.gives(1, 0, true), true);
        Check.due("gives(0, 1, false)", x.gives(0, 1, false), true);
        Check.due("look(3, 0), still the other way", x.look(3, 0), 0);
        Check.due("gives(1, 0, false)", x.gives(1, 0, false), true);
        Check.due("gives(1, 0, false) again", x.gives(1, 0, false), false);
        Check.due("look(3, 0) without", x.look(3, 0), 1);
        Check.due("gives(1, 1, true)", x.gives(1, 1, true), false);
        Check.due("gives(1, 1, false)", x.gives(1, 1, false), false);
        Check.due("gives(0, 3, true)", x.gives(0, 3, true), false);
        Check.due("gives(3, 0, true)", x.gives(3, 0, true), false);
        Check.due("gives(-1, 0, true)", x.gives(-1, 0, true), false);
        Check.due("gives(0, -1, true)", x.gives(0, -1, true), false);
        Check.due("gives(0, 32, true)", x.gives(0, 32, true), false);
    }

    private static void toldFacts() {
        PaperSetter x = new PaperSetter();
        x.question(3, 2, 60, 40, 9);
        x.question(1, 0, 2, 3, 4);
        int[][] facts = {{3, 2, 60, 40, 9, NONE, NONE}, {1, 0, 2, 3, 4, NONE, NONE}};
        for (int q = 0; q < 2; q++) {
            for (int what = 0; what < 7; what++) {
                Check.due("told(" + q + ", " + what + ")", x.told(q, what), facts[q][what]);
            }
        }
        x.use(2);
        x.passage(1, 3);
        Check.due("told(1, 5)", x.told(1, 5), 3);
        Check.due("told(1, 6)", x.told(1, 6), 1);
        Check.due("told(0, 6)", x.told(0, 6), NONE);
    }

    private static void toldOthers() {
        PaperSetter x = new PaperSetter();
        x.question(3, 2, 60, 40, 9);
        Check.due("told(0, 7)", x.told(0, 7), NONE);
        Check.due("told(0, -1)", x.told(0, -1), NONE);
        Check.due("told(1, 0)", x.told(1, 0), NONE);
        Check.due("told(-1, 0)", x.told(-1, 0), NONE);
        Check.due("told(greatest, 0)", x.told(Integer.MAX_VALUE, 0), NONE);
    }

    private static void counts() {
        PaperSetter x = new PaperSetter();
        for (int q = 0; q < 3; q++) {
            x.question(q / 2, 0, 1, 1, 1);
        }
        x.rest(1);
        x.use(5);
        x.term();
        x.order(3);
        int[] due = {3, 1, 2, 1, 1, 2};
        for (int what = 0; what < 6; what++) {
            Check.due("count(" + what + ")", x.count(what), due[what]);
        }
        Check.due("count(6)", x.count(6), NONE);
        Check.due("count(-1)", x.count(-1), NONE);
        Check.due("count(least)", x.count(Integer.MIN_VALUE), NONE);
    }
}
