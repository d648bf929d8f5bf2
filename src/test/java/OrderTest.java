/** Promises 16, 17 and 19 (4, 5): order, place, and what count tells of the latest ORDER. */
public final class OrderTest {
    private static final int NONE = PaperSetter.NONE;

    public static void main(String[] args) {
        emptyOrder();
        fewestStepsDown();
        fewestAlike();
        leastByQuestions();
        unitsStayTogether();
        partOfPassage();
        needNotBeFit();
        mostUnits();
        allQuestions();
        refusals();
        isKept();
        Check.end();
    }

    /** Pairs of TOPIC and how HARD. */
    private static PaperSetter of(int... topicsAndHards) {
        PaperSetter x = new PaperSetter();
        for (int i = 0; i + 1 < topicsAndHards.length; i += 2) {
            x.question(topicsAndHards[i], 0, 1, 1, topicsAndHards[i + 1]);
        }
        return x;
    }

    private static void dueOrder(PaperSetter x, int set, int steps, int alike, int... places) {
        Check.due("order(" + set + ")", x.order(set), steps);
        Check.due("ALIKE of " + set, x.count(4), alike);
        Check.due("QUESTIONS of " + set, x.count(5), places.length);
        for (int i = 0; i < places.length; i++) {
            Check.due("place(" + i + ") of " + set, x.place(i), places[i]);
        }
        Check.due("place behind the last of " + set, x.place(places.length), NONE);
        Check.due("place(-1) of " + set, x.place(-1), NONE);
    }

    private static void emptyOrder() {
        PaperSetter x = of(0, 1);
        dueOrder(x, 0, 0, 0);
        dueOrder(x, 1, 0, 0, 0);
        dueOrder(x, 0, 0, 0);
    }

    private static void fewestStepsDown() {
        dueOrder(of(0, 9, 0, 5, 0, 1), 7, 0, 2, 2, 1, 0);
        dueOrder(of(0, 1, 1, 2, 0, 3, 1, 4), 15, 0, 0, 0, 1, 2, 3);
        dueOrder(of(0, 1, 0, 1, 1, 2, 1, 2), 15, 0, 2, 0, 1, 2, 3);
    }

    private static void fewestAlike() {
        dueOrder(of(0, 5, 0, 5, 1, 5, 1, 5), 15, 0, 0, 0, 2, 1, 3);
        dueOrder(of(0, 5, 0, 5, 0, 5, 1, 5), 15, 0, 1, 0, 1, 3, 2);
    }

    private static void leastByQuestions() {
        dueOrder(of(0, 5, 1, 5, 2, 5, 3, 5), 15, 0, 0, 0, 1, 2, 3);
        dueOrder(of(1, 5, 0, 5, 0, 5), 7, 0, 0, 1, 0, 2);
    }

    private static void unitsStayTogether() {
        PaperSetter x = of(0, 9, 1, 5, 0, 1, 2, 5);
        x.passage(0, 3);
        x.passage(2, 3);
        dueOrder(x, 15, 1, 1, 0, 2, 1, 3);
        x.passage(1, 3);
        dueOrder(x, 15, 2, 0, 0, 1, 2, 3);
        x.passage(2, NONE);
        dueOrder(x, 15, 1, 0, 2, 3, 0, 1);
    }

    /** Of one PASSAGE only what is in the SET makes the UNIT. */
    private static void partOfPassage() {
        PaperSetter x = of(0, 9, 0, 5, 0, 1);
        x.passage(0, 0);
        x.passage(1, 0);
        x.passage(2, 0);
        dueOrder(x, 5, 1, 1, 0, 2);
        dueOrder(x, 6, 1, 1, 1, 2);
        x.passage(1, NONE);
        dueOrder(x, 6, 0, 1, 2, 1);
    }

    private static void needNotBeFit() {
        PaperSetter x = of(0, 2, 1, 1);
        x.gives(0, 1, true);
        x.rest(1);
        x.use(1);
        x.term();
        x.bound(0, 5, 5);
        dueOrder(x, 3, 0, 0, 1, 0);
    }

    private static void mostUnits() {
        PaperSetter x = of(0, 9, 0, 8, 0, 7, 0, 6, 0, 5, 0, 4, 0, 3, 0, 2, 0, 1);
        dueOrder(x, 255, 0, 7, 7, 6, 5, 4, 3, 2, 1, 0);
        Check.due("order of 9 UNITS", x.order(511), NONE);
        Check.due("the latest ORDER stays", x.place(0), 7);
        Check.due("its count stays", x.count(5), 8);
        x.passage(0, 5);
        x.passage(8, 5);
        dueOrder(x, 511, 1, 8, 0, 8, 7, 6, 5, 4, 3, 2, 1);
    }

    private static void allQuestions() {
        PaperSetter x = new PaperSetter();
        for (int q = 0; q < 24; q++) {
            x.question(q % 4, 0, 1, 1, 1 + q / 4);
            x.passage(q, q / 4);
        }
        Check.due("order of 24", x.order((1 << 24) - 1), 0);
        for (int i = 0; i < 24; i++) {
            Check.due("place(" + i + ") of 24", x.place(i), i);
        }
        Check.due("place(24)", x.place(24), NONE);
        Check.due("count(5) of 24", x.count(5), 24);
    }

    private static void refusals() {
        PaperSetter x = of(0, 3, 0, 1);
        dueOrder(x, 3, 0, 1, 1, 0);
        Check.due("order(4)", x.order(4), NONE);
        Check.due("order(-1)", x.order(-1), NONE);
        Check.due("order(least)", x.order(Integer.MIN_VALUE), NONE);
        Check.due("place(0) behind refusals", x.place(0), 1);
        Check.due("count(4) behind refusals", x.count(4), 1);
        Check.due("count(5) behind refusals", x.count(5), 2);
        Check.due("place(greatest)", x.place(Integer.MAX_VALUE), NONE);
        Check.due("place(least)", x.place(Integer.MIN_VALUE), NONE);
    }

    /** What comes behind does not change the ORDER that was made. */
    private static void isKept() {
        PaperSetter x = of(0, 3, 0, 1);
        x.order(3);
        x.passage(0, 1);
        x.passage(1, 1);
        x.question(0, 0, 1, 1, 1);
        x.best();
        x.why();
        x.versions(0);
        x.look(1, 0);
        Check.due("place(0) is kept", x.place(0), 1);
        Check.due("place(1) is kept", x.place(1), 0);
        Check.due("count(4) is kept", x.count(4), 1);
        Check.due("count(5) is kept", x.count(5), 2);
    }
}
