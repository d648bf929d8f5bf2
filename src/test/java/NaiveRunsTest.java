import java.util.Random;

/** Promises 1 to 19: long runs of calls, right and wrong ones, held against NaiveSetter's answers. */
public final class NaiveRunsTest {
    private static final int RUNS = 700;
    /** What an object answers behind these is free, so no run goes on then. */
    private static final int MOST_CALLS = 512;
    /** An ORDER of all 24, each of its places, one beside them on either side, and two counts. */
    private static final int MOST_CALLS_A_ROUND = 29;
    /** A round may make no call at all, so rounds are counted, too. */
    private static final int MOST_ROUNDS = 512;

    private final Random random;
    private final PaperSetter x = new PaperSetter();
    private final NaiveSetter due = new NaiveSetter();
    private final String name;
    private final int mostQuestions;
    private final boolean isPlain;
    private int calls = 0;

    private NaiveRunsTest(int seed) {
        random = new Random(seed);
        name = "run " + seed + ", round ";
        int[] sizes = {5, 8, 10, 13, 24};
        mostQuestions = sizes[seed % sizes.length];
        isPlain = seed % 2 == 0;
    }

    public static void main(String[] args) {
        for (int seed = 0; seed < RUNS && !Check.anyWrong(); seed++) {
            NaiveRunsTest run = new NaiveRunsTest(seed);
            for (int round = 0; round < MOST_ROUNDS && run.mayGoOn(); round++) {
                run.goOn(run.name + round + ": ");
            }
        }
        for (int seed = 0; seed < 12 && !Check.anyWrong(); seed++) {
            new NaiveRunsTest(5 * seed + 4).fullSearch();
        }
        Check.end();
    }

    private boolean mayGoOn() {
        return calls + MOST_CALLS_A_ROUND <= MOST_CALLS && !Check.anyWrong();
    }

    private void dueCall(String call, long got, long want) {
        calls++;
        Check.due(call, got, want);
    }

    private void dueCall(String call, boolean got, boolean want) {
        calls++;
        Check.due(call, got, want);
    }

    private int upTo(int greatest) {
        return random.nextInt(greatest + 1);
    }

    /** Now and then one below or above what the document allows. */
    private int near(int least, int greatest) {
        int dice = random.nextInt(60);
        if (dice == 0) {
            return least - 1;
        }
        if (dice == 1) {
            return greatest + 1;
        }
        return least + random.nextInt(greatest - least + 1);
    }

    private int anyQuestion() {
        return near(0, Math.max(0, due.count(0) - 1));
    }

    private int anySet() {
        if (random.nextInt(40) == 0) {
            return random.nextInt();
        }
        int all = (1 << due.count(0)) - 1;
        return random.nextInt() & all & (random.nextBoolean() ? -1 : random.nextInt());
    }

    private void goOn(String at) {
        int kind = random.nextInt(100);
        if (kind < 14) {
            addQuestion(at);
        } else if (kind < 30) {
            changeQuestions(at);
        } else if (kind < 45) {
            changeWishes(at);
        } else if (kind < 57) {
            changeTerms(at);
        } else if (kind < 72) {
            ask(at);
        } else if (kind < 78) {
            search(at);
        } else if (kind < 86) {
            pair(at);
        } else {
            arrange(at);
        }
    }

    private void addQuestion(String at) {
        if (due.count(0) >= mostQuestions && mostQuestions < 24) {
            return;
        }
        int topic = near(0, isPlain ? 1 : 3);
        int skill = near(0, 2);
        int minutes = near(1, isPlain ? 3 : 60);
        int marks = near(1, isPlain ? 3 : 40);
        int hard = near(1, isPlain ? 3 : 9);
        dueCall(at + "question(" + topic + ", " + skill + ", " + minutes + ", " + marks + ", " + hard + ")",
                x.question(topic, skill, minutes, marks, hard), due.question(topic, skill, minutes, marks, hard));
    }

    private void changeQuestions(String at) {
        int a = anyQuestion();
        int b = anyQuestion();
        if (random.nextInt(3) > 0) {
            int p = random.nextInt(3) == 0 ? -1 : near(-1, 5);
            dueCall(at + "passage(" + a + ", " + p + ")", x.passage(a, p), due.passage(a, p));
        } else {
            boolean is = random.nextInt(3) > 0;
            dueCall(at + "gives(" + a + ", " + b + ", " + is + ")", x.gives(a, b, is), due.gives(a, b, is));
        }
    }

    private void changeWishes(String at) {
        if (random.nextBoolean()) {
            int topic = near(0, 3);
            int marks = random.nextInt(20) == 0 ? near(0, 1000) : upTo(isPlain ? 8 : 80);
            dueCall(at + "profile(" + topic + ", " + marks + ")", x.profile(topic, marks), due.profile(topic, marks));
            return;
        }
        int b = near(0, 9);
        int most = b == 0 ? 6 : isPlain ? 12 : 150;
        int least = random.nextInt(30) == 0 ? near(0, 1000) : random.nextBoolean() ? 0 : upTo(most);
        int greatest = random.nextBoolean() ? near(1000, 1000) : least - 1 + upTo(most);
        dueCall(at + "bound(" + b + ", " + least + ", " + greatest + ")",
                x.bound(b, least, greatest), due.bound(b, least, greatest));
    }

    private void changeTerms(String at) {
        int kind = random.nextInt(4);
        if (kind == 0) {
            int r = random.nextInt(4) == 0 ? near(0, 9) : near(0, 2);
            dueCall(at + "rest(" + r + ")", x.rest(r), due.rest(r));
        } else if (kind == 1) {
            int set = anySet();
            dueCall(at + "use(" + set + ")", x.use(set), due.use(set));
        } else {
            dueCall(at + "term()", x.term(), due.term());
        }
    }

    private void ask(String at) {
        int q = anyQuestion();
        int what = near(0, 6);
        dueCall(at + "rests(" + q + ")", x.rests(q), due.rests(q));
        dueCall(at + "told(" + q + ", " + what + ")", x.told(q, what), due.told(q, what));
        dueCall(at + "count(" + what + ")", x.count(what), due.count(what));
        int set = anySet();
        int looked = random.nextBoolean() ? near(0, 3) : near(10, 19);
        dueCall(at + "look(" + set + ", " + looked + ")", x.look(set, looked), due.look(set, looked));
    }

    private void search(String at) {
        if (due.count(1) > 11 && due.count(1) <= 16 && random.nextInt(8) > 0) {
            return;
        }
        dueCall(at + "best()", x.best(), due.best());
        dueCall(at + "why()", x.why(), due.why());
    }

    private void pair(String at) {
        int d = random.nextInt(3) == 0 ? near(0, 1000) : near(0, isPlain ? 2 : 20);
        dueCall(at + "versions(" + d + ")", x.versions(d), due.versions(d));
        dueCall(at + "second()", x.second(), due.second());
    }

    private void arrange(String at) {
        int set = anySet();
        if (Integer.bitCount(set) > 6 && random.nextInt(4) > 0) {
            return;
        }
        dueCall(at + "order(" + set + ")", x.order(set), due.order(set));
        for (int i = -1; i <= due.count(5); i++) {
            dueCall(at + "place(" + i + ")", x.place(i), due.place(i));
        }
        dueCall(at + "count(4)", x.count(4), due.count(4));
        dueCall(at + "count(5)", x.count(5), due.count(5));
    }

    /** Just as many at hand as THE BEST and WHY are promised for. */
    private void fullSearch() {
        for (int q = 0; q < 16; q++) {
            addQuestion(name);
        }
        for (int change = 0; change < 8; change++) {
            changeQuestions(name);
            changeWishes(name);
        }
        dueCall(name + "best() of many", x.best(), due.best());
        dueCall(name + "why() of many", x.why(), due.why());
    }
}
