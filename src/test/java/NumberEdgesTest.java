/** 'Terms': each range of numbers, by the last that is taken and the first that is refused on either side. */
public final class NumberEdgesTest {
    private static final int NONE = PaperSetter.NONE;

    public static void main(String[] args) {
        questionsTopic();
        questionsSkill();
        questionsMinutes();
        questionsMarks();
        questionsHard();
        numbersOfQuestions();
        questionOfPassage();
        questionThatGives();
        questionGivenAway();
        questionThatRests();
        questionTold();
        passageOrNone();
        noQuestionGivesItself();
        numbersOfBounds();
        boundsLeast();
        boundsGreatest();
        leastAboveGreatest();
        boundsAtFirst();
        profilesTopic();
        profilesMarks();
        profileAtFirst();
        restTerms();
        restAtFirst();
        termsFromOne();
        versionsD();
        whatOfLook();
        whatOfTold();
        whatOfCount();
        placesOfOrder();
        Check.end();
    }

    private static PaperSetter ofMany(int questions) {
        PaperSetter x = new PaperSetter();
        for (int q = 0; q < questions; q++) {
            x.question(0, 0, 1, 1, 1);
        }
        return x;
    }

    /** Whether it is a QUESTION then, with all these numbers; otherwise there is none. */
    private static boolean takesQuestion(int... facts) {
        PaperSetter x = new PaperSetter();
        int answer = x.question(facts[0], facts[1], facts[2], facts[3], facts[4]);
        boolean isTaken = answer != NONE;
        Check.due("question's answer", answer, isTaken ? 0 : NONE);
        Check.due("QUESTIONS behind question", x.count(0), isTaken ? 1 : 0);
        for (int what = 0; what < 5; what++) {
            Check.due("told(0, " + what + ") behind question", x.told(0, what), isTaken ? facts[what] : NONE);
        }
        return isTaken;
    }

    private static void questionsTopic() {
        Edges.due("TOPIC (0 to 3)", topic -> takesQuestion(topic, 1, 2, 3, 4), 0, 3);
    }

    private static void questionsSkill() {
        Edges.due("SKILL (0 to 2)", skill -> takesQuestion(3, skill, 2, 3, 4), 0, 2);
    }

    private static void questionsMinutes() {
        Edges.due("MINUTES (1 to 60)", minutes -> takesQuestion(3, 1, minutes, 3, 4), 1, 60);
    }

    private static void questionsMarks() {
        Edges.due("MARKS (1 to 40)", marks -> takesQuestion(3, 1, 2, marks, 4), 1, 40);
    }

    private static void questionsHard() {
        Edges.due("HARD (1 to 9)", hard -> takesQuestion(3, 1, 2, 3, hard), 1, 9);
    }

    /** QUESTIONS 0 to 23; NONE: 24 are there. */
    private static void numbersOfQuestions() {
        PaperSetter x = new PaperSetter();
        for (int q = 0; q <= 23; q++) {
            Check.due("QUESTION " + q, x.question(q % 4, 0, 1, 1, 1), q);
        }
        Check.due("QUESTION 24", x.question(0, 0, 1, 1, 1), NONE);
        Check.due("QUESTION 24 again", x.question(3, 2, 60, 40, 9), NONE);
        Check.due("QUESTIONS of the full bank", x.count(0), 24);
        Check.due("the last one's TOPIC", x.told(23, 0), 3);
    }

    private static void questionOfPassage() {
        for (int n = 0; n <= 24; n++) {
            PaperSetter x = ofMany(n);
            Edges.due("passage(q, 5) of " + n, q -> x.passage(q, 5), 0, n - 1);
        }
    }

    private static void questionThatGives() {
        for (int n = 2; n <= 24; n++) {
            PaperSetter x = ofMany(n);
            Edges.due("gives(a, ..) of " + n, a -> x.gives(a, a == 0 ? 1 : 0, true), 0, n - 1);
        }
    }

    private static void questionGivenAway() {
        for (int n = 2; n <= 24; n++) {
            PaperSetter x = ofMany(n);
            Edges.due("gives(.., b) of " + n, b -> x.gives(b == 0 ? 1 : 0, b, true), 0, n - 1);
        }
    }

    private static void questionThatRests() {
        for (int n = 0; n <= 24; n++) {
            PaperSetter x = ofMany(n);
            Edges.due("rests(q) of " + n, q -> isTold(x.rests(q), 0), 0, n - 1);
        }
    }

    private static void questionTold() {
        for (int n = 0; n <= 24; n++) {
            PaperSetter x = ofMany(n);
            Edges.due("told(q, 2) of " + n, q -> isTold(x.told(q, 2), 1), 0, n - 1);
        }
    }

    /** An answer is either what is due, or NONE. */
    private static boolean isTold(int answer, int due) {
        boolean isTold = answer != NONE;
        Check.due("answer", answer, isTold ? due : NONE);
        return isTold;
    }

    /** PASSAGE 0 to 5, or none. */
    private static void passageOrNone() {
        Edges.due("PASSAGE (none, 0 to 5)", NumberEdgesTest::takesPassage, NONE, 5);
    }

    /** One QUESTION that was of PASSAGE 3, and is asked to be of p. */
    private static boolean takesPassage(int p) {
        PaperSetter x = ofMany(1);
        x.passage(0, 3);
        boolean isTaken = x.passage(0, p);
        Check.due("told(0, 5) behind passage(0, " + p + ")", x.told(0, 5), isTaken ? p : 3);
        return isTaken;
    }

    /** One may GIVE another AWAY: one and the same are no such two. */
    private static void noQuestionGivesItself() {
        PaperSetter x = ofMany(24);
        for (int q = 0; q < 24; q++) {
            Check.due("gives(" + q + ", " + q + ", true)", x.gives(q, q, true), false);
            Check.due("gives(" + q + ", " + q + ", false)", x.gives(q, q, false), false);
            Check.due("it is FIT alone", x.look(1 << q, 0), 1);
        }
    }

    private static void numbersOfBounds() {
        Edges.due("BOUNDS (0 to 9)", NumberEdgesTest::takesBound, 0, 9);
    }

    /** A BOUND that the empty SET breaks: only the one that was named. */
    private static boolean takesBound(int b) {
        PaperSetter x = new PaperSetter();
        boolean isTaken = x.bound(b, 1, 1000);
        Check.due("BOUNDS broken behind bound(" + b + ", 1, 1000)", x.look(0, 3), isTaken ? 1 << b : 0);
        return isTaken;
    }

    /** 16 of 60 MINUTES, then 32, 16, 8, 4, 2 and 1: each sum up to 1023 can be made. */
    private static PaperSetter ofMinutes() {
        PaperSetter x = new PaperSetter();
        for (int q = 0; q < 22; q++) {
            x.question(0, 0, q < 16 ? 60 : 32 >> (q - 16), 1, 1);
        }
        return x;
    }

    private static int setOfMinutes(int sum) {
        int sixties = Math.min(16, sum / 60);
        int set = (1 << sixties) - 1;
        for (int q = 16; q < 22; q++) {
            if (((sum - 60 * sixties) & 32 >> (q - 16)) != 0) {
                set |= 1 << q;
            }
        }
        return set;
    }

    private static void dueMinutes(PaperSetter x, int sum, boolean isWithin) {
        int set = setOfMinutes(sum);
        Check.due("MINUTES of the SET of " + sum, x.look(set, 11), sum);
        Check.due("BOUNDS broken by " + sum + " MINUTES", x.look(set, 3), isWithin ? 0 : 1 << 1);
        Check.due("a PAPER of " + sum + " MINUTES", x.look(set, 1), isWithin ? 1 : 0);
    }

    /** Each a least sum, 0 to 1000: the sum itself is within, one below it is not. */
    private static void boundsLeast() {
        Edges.due("least sums (0 to 1000)", NumberEdgesTest::takesLeast, 0, 1000);
    }

    private static boolean takesLeast(int least) {
        PaperSetter x = ofMinutes();
        boolean isTaken = x.bound(1, least, 1000);
        dueMinutes(x, isTaken ? least : 0, true);
        if (isTaken && least > 0) {
            dueMinutes(x, least - 1, false);
        }
        return isTaken;
    }

    /** Each a greatest sum, 0 to 1000: the sum itself is within, one above it is not. */
    private static void boundsGreatest() {
        Edges.due("greatest sums (0 to 1000)", NumberEdgesTest::takesGreatest, 0, 1000);
    }

    private static boolean takesGreatest(int greatest) {
        PaperSetter x = ofMinutes();
        boolean isTaken = x.bound(1, 0, greatest);
        dueMinutes(x, isTaken ? greatest : 1000, true);
        dueMinutes(x, isTaken ? greatest + 1 : 1001, false);
        return isTaken;
    }

    /** False: least above greatest; one like the other is fine. */
    private static void leastAboveGreatest() {
        for (int b = 0; b < 10; b++) {
            PaperSetter x = new PaperSetter();
            int[] sums = {0, 1, 500, 999, 1000};
            for (int sum : sums) {
                Check.due("bound(" + b + ") of one sum, " + sum, x.bound(b, sum, sum), true);
                Check.due("bound(" + b + ") of least one above, " + sum, x.bound(b, sum + 1, sum), false);
            }
            Check.due("bound(" + b + ", 1000, 0)", x.bound(b, 1000, 0), false);
            Check.due("BOUND " + b + " stays 1000 and 1000", x.look(0, 3), 1 << b);
        }
        PaperSetter y = ofMinutes();
        y.bound(1, 500, 500);
        dueMinutes(y, 499, false);
        dueMinutes(y, 500, true);
        dueMinutes(y, 501, false);
    }

    /** 0 and 1000 at first. Only MINUTES can come to more than 1000. */
    private static void boundsAtFirst() {
        PaperSetter x = ofMinutes();
        Check.due("BOUNDS that the empty SET breaks at first", x.look(0, 3), 0);
        dueMinutes(x, 1000, true);
        dueMinutes(x, 1001, false);
        PaperSetter y = new PaperSetter();
        for (int q = 0; q < 24; q++) {
            y.question(3, 2, 1, 40, 1);
        }
        Check.due("the greatest MARKS of all", y.look((1 << 24) - 1, 12), 960);
        Check.due("BOUNDS broken by 960 MARKS at first", y.look((1 << 24) - 1, 3), 0);
    }

    private static void profilesTopic() {
        Edges.due("THE PROFILE's TOPICS (0 to 3)", topic -> takesProfile(topic, 7), 0, 3);
    }

    private static void profilesMarks() {
        for (int topic = 0; topic < 4; topic++) {
            int of = topic;
            Edges.due("THE PROFILE's MARKS (0 to 1000)", marks -> takesProfile(of, marks), 0, 1000);
        }
    }

    /** A QUESTION of each TOPIC: only the TOPIC that was named is wished otherwise. */
    private static boolean takesProfile(int topic, int marks) {
        PaperSetter x = new PaperSetter();
        for (int t = 0; t < 4; t++) {
            x.question(t, 0, 1, 1, 1);
            x.profile(t, 5);
        }
        boolean isTaken = x.profile(topic, marks);
        Check.due("SPREAD of the empty SET", x.look(0, 2), isTaken ? 15 + marks : 20);
        for (int t = 0; t < 4; t++) {
            int wished = isTaken && t == topic ? marks : 5;
            int others = (isTaken ? 15 + marks : 20) - wished;
            Check.due("SPREAD of TOPIC " + t, x.look(1 << t, 2), others + Math.abs(wished - 1));
        }
        return isTaken;
    }

    /** Wished MARKS of each TOPIC, 0 at first. */
    private static void profileAtFirst() {
        PaperSetter x = new PaperSetter();
        Check.due("SPREAD of the empty SET at first", x.look(0, 2), 0);
        for (int t = 0; t < 4; t++) {
            x.question(t, 0, 1, 1 + t, 1);
            Check.due("SPREAD of one at first", x.look(1 << t, 2), 1 + t);
        }
    }

    private static void restTerms() {
        Edges.due("R (0 to 9)", NumberEdgesTest::takesRest, 0, 9);
    }

    /** It RESTS from the first TERM behind its USE to the R-th, not in that of the USE nor later. */
    private static boolean takesRest(int r) {
        PaperSetter x = ofMany(1);
        x.rest(4);
        boolean isTaken = x.rest(r);
        int due = isTaken ? r : 4;
        Check.due("R behind rest(" + r + ")", x.count(3), due);
        x.use(1);
        Check.due("rests(0) in the TERM of its USE", x.rests(0), 0);
        for (int behind = 1; behind <= due; behind++) {
            x.term();
            Check.due("rests(0), R " + due + ", " + behind + " behind", x.rests(0), 1);
        }
        x.term();
        Check.due("rests(0), R " + due + ", one behind the last", x.rests(0), 0);
        return isTaken;
    }

    /** R: 0 at first. */
    private static void restAtFirst() {
        PaperSetter x = ofMany(1);
        Check.due("R at first", x.count(3), 0);
        x.use(1);
        x.term();
        Check.due("rests(0) in the TERM behind its USE at first", x.rests(0), 0);
    }

    /** TERMS are numbered from 1; the last one that an object's 512 calls can come to and tell of. */
    private static void termsFromOne() {
        PaperSetter x = ofMany(1);
        Check.due("the TERM at first", x.count(2), 1);
        x.use(1);
        Check.due("a USE in the first TERM", x.told(0, 6), 1);
        for (int t = 2; t <= 506; t++) {
            Check.due("term()", x.term(), t);
        }
        x.use(1);
        Check.due("a USE in a late TERM", x.told(0, 6), 506);
        Check.due("the TERM then", x.count(2), 506);
    }

    private static void versionsD() {
        Edges.due("D (0 to 1000)", d -> isTold(ofMany(2).versions(d), 1), 0, 1000);
    }

    private static void whatOfLook() {
        PaperSetter x = ofMany(3);
        for (int what = 0; what <= 3; what++) {
            Check.due("look(7, " + what + ") is told", x.look(7, what) != NONE, true);
        }
        for (int what = 4; what <= 9; what++) {
            Check.due("look(7, " + what + ")", x.look(7, what), NONE);
        }
        Edges.due("BOUNDS' sums (10 to 19)", what -> what >= 4 && x.look(7, what) != NONE, 10, 19);
        Check.due("look(7, -1)", x.look(7, -1), NONE);
        Check.due("look(7, -10)", x.look(7, -10), NONE);
        Check.due("look(7, least)", x.look(7, Integer.MIN_VALUE), NONE);
    }

    private static void whatOfTold() {
        PaperSetter x = ofMany(1);
        x.passage(0, 0);
        x.use(1);
        Edges.due("what of told (0 to 6)", what -> x.told(0, what) != NONE, 0, 6);
        Edges.due("what of told, no such QUESTION", what -> x.told(1, what) != NONE, 0, -1);
    }

    private static void whatOfCount() {
        PaperSetter x = new PaperSetter();
        Edges.due("what of count (0 to 5)", what -> x.count(what) != NONE, 0, 5);
    }

    /** The i-th QUESTION of the latest ORDER; NONE: there is none such. */
    private static void placesOfOrder() {
        PaperSetter x = ofMany(24);
        Edges.due("places before the first ORDER", i -> x.place(i) != NONE, 0, -1);
        for (int q = 0; q < 24; q++) {
            x.passage(q, q / 4);
        }
        int[] sizes = {0, 1, 2, 23, 24, 0};
        for (int size : sizes) {
            x.order((1 << size) - 1);
            Check.due("QUESTIONS in the ORDER", x.count(5), size);
            Edges.due("places of " + size, i -> isTold(x.place(i), i), 0, size - 1);
        }
    }
}
