/** Promises 12 and 13: best, why. */
public final class BestTest {
    private static final int NONE = PaperSetter.NONE;
    private static final int NO_PAPER = -2;

    public static void main(String[] args) {
        emptyBank();
        leastSpread();
        nearestIsMetLate();
        givenAwayBySeveral();
        fewestQuestions();
        lowestQuestion();
        lowestQuestionOfPassages();
        restingPassage();
        mostAtHand();
        noPaper();
        fewestBounds();
        leastBits();
        whyHeedsFitness();
        allBoundsTogether();
        Check.end();
    }

    private static PaperSetter ofMarks(int... marks) {
        PaperSetter x = new PaperSetter();
        for (int m : marks) {
            x.question(0, 0, 1, m, 1);
        }
        return x;
    }

    private static void emptyBank() {
        PaperSetter x = new PaperSetter();
        Check.due("best() of an empty bank", x.best(), 0);
        Check.due("why() of an empty bank", x.why(), 0);
        x.bound(0, 1, 1);
        Check.due("best() without the empty PAPER", x.best(), NO_PAPER);
        Check.due("why() without the empty PAPER", x.why(), 1);
    }

    private static void leastSpread() {
        PaperSetter x = ofMarks(3, 5, 9);
        x.profile(0, 13);
        Check.due("nearest is 12 or 14: fewest, then lowest", x.best(), 5);
        x.profile(0, 14);
        Check.due("nearest is 14", x.best(), 6);
        x.bound(2, 0, 13);
        Check.due("14 is above the BOUND", x.best(), 5);
        x.bound(2, 15, 1000);
        Check.due("14 is below the BOUND", x.best(), 7);
    }

    /** All three are one off; without the second one there is none that seems near until the third comes. */
    private static void nearestIsMetLate() {
        int[] marks = {10, 1, 9};
        for (int topic = 0; topic < 4; topic++) {
            PaperSetter x = new PaperSetter();
            for (int m : marks) {
                x.question(topic, 0, 1, m, 1);
            }
            x.profile(topic, 19);
            Check.due("10 + 9 is nearer than all, TOPIC " + topic, x.best(), 0b101);
        }
    }

    private static void givenAwayBySeveral() {
        PaperSetter x = ofMarks(4, 5, 6);
        x.gives(0, 2, true);
        x.gives(1, 2, true);
        x.profile(0, 10);
        Check.due("neither 4 + 6 nor 5 + 6", x.best(), 0b011);
        x.gives(0, 2, false);
        Check.due("4 + 6, not 5 + 6", x.best(), 0b101);
        PaperSetter y = ofMarks(4, 5, 6);
        y.gives(2, 0, true);
        y.gives(2, 1, true);
        y.profile(0, 10);
        Check.due("6 gives both away", y.best(), 0b011);
    }

    private static void fewestQuestions() {
        PaperSetter x = ofMarks(2, 2, 1, 4);
        x.profile(0, 4);
        Check.due("one of 4 goes before two of 2", x.best(), 8);
        PaperSetter y = ofMarks(4, 2, 2);
        y.passage(1, 0);
        y.passage(2, 0);
        y.profile(0, 4);
        Check.due("one of 4 goes before a later PASSAGE of 2 and 2", y.best(), 1);
    }

    private static void lowestQuestion() {
        PaperSetter x = ofMarks(1, 4, 3, 2, 4);
        x.profile(0, 5);
        Check.due("of 1 + 4, 3 + 2, 1 + 4", x.best(), 3);
        x.gives(1, 0, true);
        Check.due("0 with 4, not 2 with 3", x.best(), 17);
    }

    /** As bits {0, 5} is above {1, 2}, and yet it has the lower QUESTION. */
    private static void lowestQuestionOfPassages() {
        PaperSetter x = ofMarks(2, 2, 2, 9, 9, 2);
        x.passage(0, 0);
        x.passage(5, 0);
        x.passage(1, 1);
        x.passage(2, 1);
        x.profile(0, 4);
        Check.due("PASSAGE of 0 and 5", x.best(), 33);
        x.passage(0, NONE);
        x.passage(5, NONE);
        x.passage(1, NONE);
        x.passage(2, NONE);
        Check.due("0 and 1 without PASSAGES", x.best(), 3);
    }

    private static void restingPassage() {
        PaperSetter x = ofMarks(4, 4, 4);
        x.passage(0, 0);
        x.passage(1, 0);
        x.profile(0, 8);
        Check.due("the PASSAGE", x.best(), 3);
        x.rest(1);
        x.use(1);
        x.term();
        Check.due("half of the PASSAGE RESTS", x.best(), 4);
        x.term();
        Check.due("it RESTS no more", x.best(), 3);
        x.gives(0, 1, true);
        Check.due("it gives itself away", x.best(), 4);
    }

    private static void mostAtHand() {
        PaperSetter x = ofMarks(1, 1, 1, 1, 1, 1, 1, 1, 1, 1, 1, 1, 1, 1, 1, 1);
        x.profile(0, 16);
        Check.due("best() of 16", x.best(), 65535);
        Check.due("why() of 16", x.why(), 0);
        x.question(0, 0, 1, 1, 1);
        Check.due("best() of 17", x.best(), NONE);
        Check.due("why() of 17", x.why(), NONE);
        x.bound(0, 0, 0);
        Check.due("best() of 17, whatever the BOUNDS", x.best(), NONE);
        x.bound(0, 0, 24);
        x.rest(1);
        x.use(1);
        x.term();
        Check.due("best() of 16 of 17", x.best(), 131070);
        Check.due("why() of 16 of 17", x.why(), 0);
    }

    private static void noPaper() {
        PaperSetter x = ofMarks(3, 5);
        x.bound(2, 4, 4);
        Check.due("best() of marks 4", x.best(), NO_PAPER);
        Check.due("why() of marks 4", x.why(), 1 << 2);
        x.bound(2, 3, 4);
        Check.due("best() of marks 3 or 4", x.best(), 1);
        Check.due("why() of marks 3 or 4", x.why(), 0);
    }

    /** BOUNDS 0 and 1 and 2 are against one another by twos; 9 can't be kept at all. */
    private static void fewestBounds() {
        PaperSetter x = ofMarks(10, 10);
        x.bound(0, 2, 2);
        x.bound(1, 0, 1);
        Check.due("two against one another", x.why(), 1 | 2);
        x.bound(9, 1, 1000);
        Check.due("one alone is fewer", x.why(), 1 << 9);
        x.bound(9, 0, 1000);
        x.bound(0, 0, 1000);
        x.bound(1, 2, 2);
        x.bound(2, 10, 10);
        Check.due("MINUTES and MARKS", x.why(), 2 | 4);
    }

    private static void leastBits() {
        PaperSetter x = ofMarks(10, 10);
        x.bound(0, 2, 2);
        x.bound(2, 0, 10);
        x.bound(3, 0, 10);
        x.bound(7, 0, 10);
        Check.due("of 0 with 2, 3 or 7 the least bits", x.why(), 1 | 4);
        x.bound(2, 0, 1000);
        Check.due("of 0 with 3 or 7 the least bits", x.why(), 1 | 8);
        x.bound(1, 2, 1000);
        Check.due("of 0 or 1 with 3 or 7 the least bits", x.why(), 1 | 8);
        x.bound(0, 0, 1000);
        Check.due("of 1 with 3 or 7 the least bits", x.why(), 2 | 8);
        threeTogether();
    }

    /** Each two of the three BOUNDS are kept by one SET, all three by none. */
    private static void threeTogether() {
        PaperSetter x = new PaperSetter();
        x.question(0, 0, 1, 10, 1);
        x.question(1, 0, 1, 10, 1);
        x.bound(3, 10, 10);
        x.bound(4, 10, 10);
        x.bound(2, 0, 10);
        Check.due("three BOUNDS", x.why(), 1 << 2 | 1 << 3 | 1 << 4);
    }

    private static void whyHeedsFitness() {
        PaperSetter x = ofMarks(10, 10, 5);
        x.bound(0, 2, 2);
        x.bound(2, 20, 1000);
        Check.due("there is a PAPER", x.why(), 0);
        x.gives(1, 0, true);
        Check.due("the PAPER gives itself away", x.why(), 4);
        x.gives(1, 0, false);
        x.passage(0, 1);
        x.passage(2, 1);
        Check.due("the PAPER splits a PASSAGE", x.why(), 1 | 4);
        x.passage(0, NONE);
        x.rest(1);
        x.use(1);
        x.term();
        Check.due("one of the PAPER RESTS", x.why(), 4);
    }

    /** Ten UNITS, no two of them FIT together, each of which breaks one BOUND alone. */
    private static void allBoundsTogether() {
        PaperSetter x = new PaperSetter();
        int[][] bounds = {
            {1, 2}, {10, 10}, {12, 13}, {0, 11}, {0, 11}, {0, 11}, {0, 12}, {0, 11}, {0, 11}, {0, 12},
        };
        // Topic, skill, minutes, marks, and the BOUND that its UNIT breaks.
        int[][] questions = {
            {3, 2, 3, 4, 0}, {3, 2, 11, 12, 1}, {3, 2, 10, 11, 2}, {0, 2, 10, 12, 3},
            {1, 2, 10, 12, 4}, {2, 2, 10, 12, 5}, {3, 2, 5, 6, 6}, {3, 0, 10, 12, 7},
            {3, 1, 10, 12, 8}, {3, 2, 5, 6, 9}, {3, 2, 3, 4, 0}, {3, 2, 4, 4, 0},
            {3, 1, 5, 7, 6}, {0, 2, 5, 7, 9},
        };
        int[] unitOfBound = new int[10];
        for (int q = 0; q < questions.length; q++) {
            int[] f = questions[q];
            x.question(f[0], f[1], f[2], f[3], 1);
            unitOfBound[f[4]] |= 1 << q;
            if (f[4] == 0 || f[4] == 6 || f[4] == 9) {
                x.passage(q, f[4] / 3);
            }
        }
        for (int a = 0; a < 10; a++) {
            x.bound(a, bounds[a][0], bounds[a][1]);
            for (int b = 0; b < a; b++) {
                x.gives(a, b, true);
            }
        }
        for (int b = 0; b < 10; b++) {
            Check.due("UNIT of BOUND " + b + " is FIT", x.look(unitOfBound[b], 0), 1);
            Check.due("UNIT of BOUND " + b + " breaks", x.look(unitOfBound[b], 3), 1 << b);
        }
        Check.due("all ten BOUNDS", x.why(), 1023);
        Check.due("best() then", x.best(), NO_PAPER);
        x.bound(9, 0, 13);
        Check.due("BOUND 9 is wide enough for its UNIT", x.why(), 0);
        Check.due("best() then", x.best(), unitOfBound[9]);
    }
}
