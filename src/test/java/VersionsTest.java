/** Promises 14 and 15: versions, second. */
public final class VersionsTest {
    private static final int NONE = PaperSetter.NONE;
    private static final int NO_PAPER = -2;

    public static void main(String[] args) {
        neitherIsEmpty();
        differences();
        leastSpreads();
        leastSpreadsTogether();
        fewestQuestions();
        greatestBits();
        greatestBitsOfPassages();
        withinBounds();
        mostAtHand();
        secondBehindRefusals();
        Check.end();
    }

    private static void dueTwo(String what, PaperSetter x, int d, int first, int second) {
        Check.due(what + ": versions(" + d + ")", x.versions(d), first);
        Check.due(what + ": second()", x.second(), second);
    }

    private static void neitherIsEmpty() {
        PaperSetter x = new PaperSetter();
        dueTwo("no QUESTION", x, 1000, NO_PAPER, 0);
        x.question(0, 0, 1, 1, 1);
        dueTwo("one QUESTION", x, 1000, NO_PAPER, 0);
        x.question(0, 0, 1, 1, 1);
        dueTwo("two QUESTIONS", x, 0, 1, 2);
    }

    private static void differences() {
        PaperSetter x = new PaperSetter();
        x.question(0, 0, 10, 1, 1);
        x.question(0, 0, 10, 4, 1);
        dueTwo("MARKS differ by 3", x, 2, NO_PAPER, 0);
        dueTwo("MARKS differ by 3", x, 3, 1, 2);
        PaperSetter y = new PaperSetter();
        y.question(0, 0, 16, 5, 1);
        y.question(0, 0, 10, 5, 1);
        dueTwo("MINUTES differ by 6", y, 5, NO_PAPER, 0);
        dueTwo("MINUTES differ by 6", y, 6, 1, 2);
    }

    private static void leastSpreads() {
        PaperSetter x = new PaperSetter();
        x.question(0, 0, 1, 10, 1);
        x.question(1, 0, 1, 10, 1);
        x.question(0, 0, 1, 10, 1);
        x.question(1, 0, 1, 10, 1);
        x.profile(0, 10);
        x.profile(1, 10);
        dueTwo("of both TOPICS each: the first the greatest", x, 0, 9, 6);
        x.gives(3, 0, true);
        dueTwo("0 and 3 not together", x, 0, 3, 12);
    }

    /** Spreads of 1 and 0 go before 4 and 4, though those are the more alike. */
    private static void leastSpreadsTogether() {
        PaperSetter x = new PaperSetter();
        int[] marks = {9, 10, 6, 6};
        for (int m : marks) {
            x.question(0, 0, 1, m, 1);
        }
        x.profile(0, 10);
        x.bound(0, 1, 1);
        dueTwo("9 and 10, not 6 and 6", x, 1000, 1, 2);
        x.profile(0, 6);
        dueTwo("6 and 6", x, 1000, 4, 8);
    }

    private static void fewestQuestions() {
        PaperSetter x = new PaperSetter();
        x.question(0, 0, 1, 4, 1);
        x.question(0, 0, 1, 2, 1);
        x.question(0, 0, 1, 2, 1);
        x.question(0, 0, 1, 4, 1);
        x.profile(0, 4);
        dueTwo("one each, not 0 with 1 and 2", x, 1, 1, 8);
        fewestOfLikeSpreads();
    }

    /** 4 and 4 are one off each, as 3 + 3 and 3 + 3 are. */
    private static void fewestOfLikeSpreads() {
        PaperSetter x = new PaperSetter();
        int[] marks = {4, 4, 3, 3, 3, 3};
        for (int m : marks) {
            x.question(0, 0, m, m, 1);
        }
        x.profile(0, 5);
        dueTwo("one each, not two each", x, 0, 1, 2);
        x.bound(0, 2, 2);
        dueTwo("two each", x, 0, 0b100100, 0b011000);
    }

    /** The first of 0, 1 and 2: of {0}{1}, {0}{2}, {1}{2} the first is greatest in the last. */
    private static void greatestBits() {
        PaperSetter x = new PaperSetter();
        for (int q = 0; q < 3; q++) {
            x.question(0, 0, 1, 5, 1);
        }
        x.profile(0, 5);
        dueTwo("alike ones", x, 0, 2, 4);
        x.gives(0, 1, true);
        dueTwo("apart they are fine", x, 0, 2, 4);
        x.profile(0, 10);
        dueTwo("none of three has two times two", x, 0, 2, 4);
        x.question(0, 0, 1, 5, 1);
        dueTwo("0 with 3 is greater than 0 with 2", x, 0, 9, 6);
        x.profile(0, 5);
        x.bound(1, 0, 1);
        dueTwo("the second the greatest", x, 0, 4, 8);
    }

    /** By UNITS {0, 4} stands before {1, 3}, by bits it is above it. */
    private static void greatestBitsOfPassages() {
        PaperSetter x = new PaperSetter();
        int[] passages = {0, 1, 2, 1, 0, 2};
        for (int q = 0; q < 6; q++) {
            x.question(0, 0, 1, 5, 1);
            x.passage(q, passages[q]);
        }
        x.profile(0, 10);
        dueTwo("first {0, 4}, second {2, 5}", x, 0, 17, 36);
    }

    private static void withinBounds() {
        PaperSetter x = new PaperSetter();
        for (int q = 0; q < 4; q++) {
            x.question(0, 0, 1, 5, 1);
        }
        x.bound(0, 2, 2);
        dueTwo("two each", x, 0, 9, 6);
        x.bound(0, 3, 24);
        dueTwo("three each", x, 0, NO_PAPER, 0);
        x.bound(0, 0, 24);
        x.rest(1);
        x.use(7);
        x.term();
        dueTwo("one is at hand", x, 1000, NO_PAPER, 0);
    }

    private static void mostAtHand() {
        PaperSetter x = new PaperSetter();
        for (int q = 0; q < 10; q++) {
            x.question(0, 0, 1, 4, 1);
        }
        x.profile(0, 20);
        Check.due("versions of 10", x.versions(0), 1 | 0b1111000000);
        Check.due("second of 10", x.second(), 0b0000111110);
        x.question(0, 0, 1, 4, 1);
        Check.due("versions of 11", x.versions(0), NONE);
        x.rest(1);
        x.use(1 << 10);
        x.term();
        Check.due("versions of 10 of 11", x.versions(0), 1 | 0b1111000000);
    }

    private static void secondBehindRefusals() {
        PaperSetter x = new PaperSetter();
        x.question(0, 0, 1, 4, 1);
        x.question(0, 0, 1, 5, 1);
        dueTwo("two", x, 1, 1, 2);
        Check.due("versions(-1)", x.versions(-1), NONE);
        Check.due("second() behind versions(-1)", x.second(), 2);
        Check.due("versions(1001)", x.versions(1001), NONE);
        Check.due("second() behind versions(1001)", x.second(), 2);
        Check.due("second() again", x.second(), 2);
        for (int q = 2; q < 11; q++) {
            x.question(0, 0, 1, 4, 1);
        }
        Check.due("versions of 11", x.versions(1), NONE);
        Check.due("second() behind versions of 11", x.second(), 2);
        x.rest(1);
        x.use(0b11111111100);
        x.term();
        dueTwo("two that differ", x, 0, NO_PAPER, 0);
        dueTwo("two that differ by 1", x, 1, 1, 2);
    }
}
