import java.util.ArrayList;
import java.util.List;
import java.util.function.Function;
import java.util.function.Supplier;
import java.util.function.ToIntFunction;

/**
 * 'A call that is refused (NONE, false) changes nothing.' Of two twins one makes the refused call; then
 * both are asked alike, and every later answer of one must be the other's.
 */
public final class RefusalTest {
    private static final int NONE = PaperSetter.NONE;
    private static final int FALSE = 0;
    private static final int LEAST = Integer.MIN_VALUE;
    private static final int GREATEST = Integer.MAX_VALUE;

    /** A bank, and how to make it anew. */
    private final String name;
    private final Supplier<PaperSetter> made;

    private RefusalTest(String name, Supplier<PaperSetter> made) {
        this.name = name;
        this.made = made;
    }

    public static void main(String[] args) {
        RefusalTest empty = new RefusalTest("the empty bank", PaperSetter::new);
        RefusalTest busy = new RefusalTest("a bank of nine", RefusalTest::busyBank);
        RefusalTest crowded = new RefusalTest("the full bank", RefusalTest::crowdedBank);
        RefusalTest[] banks = {empty, busy, crowded};
        for (RefusalTest bank : banks) {
            bank.refuseQuestion();
            bank.refusePassage();
            bank.refuseGives();
            bank.refuseBound();
            bank.refuseProfile();
            bank.refuseRest();
            bank.refuseUse();
            bank.refuseRests();
            bank.refuseLook();
            bank.refuseVersions();
            bank.refuseOrder();
            bank.refusePlace();
            bank.refuseTold();
            bank.refuseCount();
        }
        busy.refuseWhatIsSo();
        crowded.refuseWhatIsTooMuch();
        Check.end();
    }

    /** Nine QUESTIONS with all that can be said of them; TWO VERSIONS and an ORDER are made. */
    private static PaperSetter busyBank() {
        PaperSetter x = new PaperSetter();
        for (int q = 0; q < 9; q++) {
            x.question(q % 4, q % 3, 5 + q % 2, 4 + q % 3, 1 + q * 5 % 9);
        }
        x.passage(1, 0);
        x.passage(4, 0);
        x.passage(2, 5);
        x.gives(0, 3, true);
        x.gives(8, 7, true);
        x.bound(0, 1, 4);
        x.bound(2, 3, 30);
        x.profile(0, 6);
        x.profile(1, 5);
        x.rest(2);
        x.use(0b000100000);
        x.term();
        x.versions(3);
        x.order(0b110011011);
        return x;
    }

    /** 24 QUESTIONS, all at hand; the latest TWO VERSIONS and ORDER are of when there were eight. */
    private static PaperSetter crowdedBank() {
        PaperSetter x = new PaperSetter();
        for (int q = 0; q < 8; q++) {
            x.question(q % 4, q % 3, 5, 5 + q % 2, 9 - q);
        }
        x.versions(5);
        x.order(255);
        for (int q = 8; q < 24; q++) {
            x.question(q % 4, q % 3, 5, 5, 1 + q % 9);
        }
        x.gives(23, 0, true);
        x.passage(22, 3);
        x.passage(23, 3);
        x.profile(2, 11);
        x.bound(1, 0, 60);
        return x;
    }

    private void changesNothing(String call, ToIntFunction<PaperSetter> refused, int answer) {
        List<Function<PaperSetter, String>> views = new ArrayList<>();
        views.add(RefusalTest::whatIsTold);
        views.add(RefusalTest::whatIsLookedAt);
        views.add(RefusalTest::whatIsFound);
        views.add(RefusalTest::whatIsFoundOfFew);
        views.add(RefusalTest::whatComesNext);
        views.add(x -> whatIsGiven(x, 0, 11));
        views.add(x -> whatIsGiven(x, 12, 23));
        for (Function<PaperSetter, String> view : views) {
            PaperSetter x = made.get();
            PaperSetter twin = made.get();
            Check.due(call + " of " + name, refused.applyAsInt(x), answer);
            Check.due("later answers behind " + call + " of " + name, view.apply(x), view.apply(twin));
        }
    }

    private static String whatIsTold(PaperSetter x) {
        StringBuilder answers = new StringBuilder();
        for (int what = 0; what < 6; what++) {
            answers.append(" count ").append(x.count(what));
        }
        answers.append(" second ").append(x.second());
        int placed = x.count(5);
        for (int i = 0; i <= placed; i++) {
            answers.append(" place ").append(x.place(i));
        }
        int size = x.count(0);
        for (int q = 0; q <= size; q++) {
            answers.append(" rests ").append(x.rests(q));
            for (int what = 0; what < 7; what++) {
                answers.append(" told ").append(x.told(q, what));
            }
        }
        return answers.toString();
    }

    private static String whatIsLookedAt(PaperSetter x) {
        StringBuilder answers = new StringBuilder();
        int all = (1 << x.count(0)) - 1;
        int[] sets = {0, all, all >> 1, all >> 2 & 0x333333, all & 0x5b6d5b, all & 0xc00012, all & 0x800001};
        for (int set : sets) {
            for (int what = 0; what < 20; what++) {
                answers.append(" look ").append(x.look(set, what));
            }
        }
        for (int q = 0; q < x.count(0); q++) {
            answers.append(" FIT ").append(x.look(1 << q, 0)).append(" broken ").append(x.look(1 << q, 3));
        }
        return answers.toString();
    }

    private static String whatIsFound(PaperSetter x) {
        StringBuilder answers = new StringBuilder();
        answers.append(" best ").append(x.best()).append(" why ").append(x.why());
        answers.append(" second ").append(x.second());
        for (int d = 0; d <= 4; d++) {
            answers.append(" versions ").append(x.versions(d)).append(" second ").append(x.second());
        }
        for (int set = 1; set < 1 << x.count(0); set = set * 3 + 1) {
            answers.append(" order ").append(x.order(set)).append(whatIsOrdered(x));
        }
        return answers.toString();
    }

    private static String whatIsOrdered(PaperSetter x) {
        StringBuilder answers = new StringBuilder();
        answers.append(" ALIKE ").append(x.count(4));
        int placed = x.count(5);
        for (int i = 0; i < placed; i++) {
            answers.append(" place ").append(x.place(i));
        }
        return answers.toString();
    }

    /** Most REST, so that even of a full bank the searches tell something. */
    private static String whatIsFoundOfFew(PaperSetter x) {
        int all = (1 << x.count(0)) - 1;
        StringBuilder answers = new StringBuilder();
        answers.append(" use ").append(x.use(all & 0x1ff700)).append(" rest ").append(x.rest(9));
        answers.append(" term ").append(x.term()).append(" at hand ").append(x.count(1));
        for (int greatest = 0; greatest <= 60; greatest += 5) {
            answers.append(" best ").append(x.best()).append(" why ").append(x.why());
            answers.append(" versions ").append(x.versions(3)).append(" second ").append(x.second());
            x.bound(2, greatest, greatest + 2);
            x.profile(greatest % 4, greatest);
        }
        return answers.toString();
    }

    private static String whatComesNext(PaperSetter x) {
        StringBuilder answers = new StringBuilder();
        for (int t = 0; t < 12; t++) {
            answers.append(" term ").append(x.term()).append(" at hand ").append(x.count(1));
        }
        answers.append(" question ").append(x.question(3, 2, 1, 2, 3));
        answers.append(" question ").append(x.question(0, 0, 60, 40, 9));
        answers.append(" passage ").append(x.passage(0, 0)).append(x.passage(9, 0));
        answers.append(" use ").append(x.use(1)).append(" rest ").append(x.rest(1));
        answers.append(" term ").append(x.term());
        return answers.append(whatIsTold(x)).append(" best ").append(x.best()).toString();
    }

    /** Whether it is so already tells what GIVES what AWAY. */
    private static String whatIsGiven(PaperSetter x, int first, int last) {
        StringBuilder answers = new StringBuilder();
        int size = x.count(0);
        for (int a = first; a <= last; a++) {
            for (int b = 0; b < size; b++) {
                answers.append(x.gives(a, b, true) ? 'n' : 'y');
            }
        }
        return answers.toString();
    }

    private static int oneIf(boolean is) {
        return is ? 1 : 0;
    }

    private void refuseQuestion() {
        int[][] wrong = {
            {-1, 0, 1, 1, 1}, {4, 0, 1, 1, 1}, {0, -1, 1, 1, 1}, {0, 3, 1, 1, 1}, {0, 0, 0, 1, 1},
            {0, 0, 61, 1, 1}, {0, 0, 1, 0, 1}, {0, 0, 1, 41, 1}, {0, 0, 1, 1, 0}, {0, 0, 1, 1, 10},
        };
        for (int[] w : wrong) {
            changesNothing("question", x -> x.question(w[0], w[1], w[2], w[3], w[4]), NONE);
        }
    }

    private void refusePassage() {
        int[][] wrong = {{-1, 1}, {24, 1}, {32, 1}, {LEAST, NONE}, {GREATEST, 1}, {0, 6}, {1, -2}, {1, GREATEST}};
        for (int[] w : wrong) {
            changesNothing("passage(" + w[0] + ", " + w[1] + ")", x -> oneIf(x.passage(w[0], w[1])), FALSE);
        }
    }

    private void refuseGives() {
        int[][] wrong = {
            {-1, 0}, {0, -1}, {24, 0}, {0, 24}, {0, 32}, {32, 1}, {0, 33}, {33, 0}, {1, 1}, {0, LEAST}, {GREATEST, 0},
        };
        for (int[] w : wrong) {
            String call = "gives(" + w[0] + ", " + w[1] + ")";
            changesNothing(call + ", true", x -> oneIf(x.gives(w[0], w[1], true)), FALSE);
            changesNothing(call + ", false", x -> oneIf(x.gives(w[0], w[1], false)), FALSE);
        }
    }

    private void refuseBound() {
        int[][] wrong = {
            {-1, 1, 2}, {10, 1, 2}, {2, -1, 2}, {2, 2, 1}, {2, 0, 1001}, {2, 1001, 1001}, {2, 5, -1},
            {LEAST, 1, 2}, {GREATEST, 1, 2}, {0, LEAST, GREATEST}, {9, 1000, 999},
        };
        for (int[] w : wrong) {
            String call = "bound(" + w[0] + ", " + w[1] + ", " + w[2] + ")";
            changesNothing(call, x -> oneIf(x.bound(w[0], w[1], w[2])), FALSE);
        }
    }

    private void refuseProfile() {
        int[][] wrong = {{-1, 3}, {4, 3}, {LEAST, 3}, {GREATEST, 3}, {0, -1}, {0, 1001}, {3, LEAST}, {3, GREATEST}};
        for (int[] w : wrong) {
            changesNothing("profile(" + w[0] + ", " + w[1] + ")", x -> oneIf(x.profile(w[0], w[1])), FALSE);
        }
    }

    private void refuseRest() {
        int[] wrong = {-1, 10, LEAST, GREATEST};
        for (int r : wrong) {
            changesNothing("rest(" + r + ")", x -> oneIf(x.rest(r)), FALSE);
        }
    }

    private int[] wrongSets() {
        int above = 1 << made.get().count(0);
        return new int[] {above, above + 1, 2 * above - 1, 1 << 24, 1 << 30 | 1, -1, LEAST, LEAST | 1, GREATEST};
    }

    private void refuseUse() {
        for (int set : wrongSets()) {
            changesNothing("use(" + set + ")", x -> oneIf(x.use(set)), FALSE);
        }
    }

    private void refuseRests() {
        int[] wrong = {-1, 24, 32, LEAST, GREATEST};
        for (int q : wrong) {
            changesNothing("rests(" + q + ")", x -> x.rests(q), NONE);
        }
    }

    private void refuseLook() {
        for (int set : wrongSets()) {
            changesNothing("look(" + set + ", 0)", x -> x.look(set, 0), NONE);
            changesNothing("look(" + set + ", 19)", x -> x.look(set, 19), NONE);
        }
        int[] wrong = {-1, 4, 9, 20, LEAST, GREATEST};
        for (int what : wrong) {
            changesNothing("look(0, " + what + ")", x -> x.look(0, what), NONE);
        }
    }

    private void refuseVersions() {
        int[] wrong = {-1, 1001, LEAST, GREATEST};
        for (int d : wrong) {
            changesNothing("versions(" + d + ")", x -> x.versions(d), NONE);
        }
    }

    private void refuseOrder() {
        for (int set : wrongSets()) {
            changesNothing("order(" + set + ")", x -> x.order(set), NONE);
        }
    }

    private void refusePlace() {
        int[] wrong = {-1, 8, 24, LEAST, GREATEST};
        for (int i : wrong) {
            changesNothing("place(" + i + ")", x -> x.place(i), NONE);
        }
    }

    private void refuseTold() {
        int[][] wrong = {{-1, 0}, {24, 0}, {LEAST, 0}, {GREATEST, 0}, {0, -1}, {0, 7}, {0, LEAST}, {0, GREATEST}};
        for (int[] w : wrong) {
            changesNothing("told(" + w[0] + ", " + w[1] + ")", x -> x.told(w[0], w[1]), NONE);
        }
    }

    private void refuseCount() {
        int[] wrong = {-1, 6, LEAST, GREATEST};
        for (int what : wrong) {
            changesNothing("count(" + what + ")", x -> x.count(what), NONE);
        }
    }

    /** False: it is so. */
    private void refuseWhatIsSo() {
        changesNothing("gives(0, 3, true)", x -> oneIf(x.gives(0, 3, true)), FALSE);
        changesNothing("gives(8, 7, true)", x -> oneIf(x.gives(8, 7, true)), FALSE);
        changesNothing("gives(3, 0, false)", x -> oneIf(x.gives(3, 0, false)), FALSE);
        changesNothing("gives(5, 6, false)", x -> oneIf(x.gives(5, 6, false)), FALSE);
    }

    /** NONE: 24 are there, more than 16 and more than 10 are at hand, more than 8 UNITS. */
    private void refuseWhatIsTooMuch() {
        changesNothing("question", x -> x.question(1, 1, 2, 2, 2), NONE);
        changesNothing("best()", x -> x.best(), NONE);
        changesNothing("why()", x -> x.why(), NONE);
        changesNothing("versions(5)", x -> x.versions(5), NONE);
        changesNothing("order of nine UNITS", x -> x.order(511), NONE);
        changesNothing("order of all", x -> x.order((1 << 24) - 1), NONE);
    }
}
