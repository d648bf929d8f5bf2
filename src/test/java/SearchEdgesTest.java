/** 'of at most 16 at hand', 'of at most 10 at hand', 'neither empty', 'of at most 8 UNITS', -2 and 0. */
public final class SearchEdgesTest {
    private static final int NONE = PaperSetter.NONE;
    private static final int NO_PAPER = -2;
    private static final int ALL = (1 << 24) - 1;

    public static void main(String[] args) {
        bestOfManyAtHand();
        whyOfManyAtHand();
        versionsOfManyAtHand();
        atHandAreQuestionsNotUnits();
        atHandThoughNotFit();
        bestOfTheLast();
        bestJustWithinBounds();
        bestByLeastDifferences();
        whyOfOneOrNone();
        neitherVersionIsEmpty();
        versionsDifferByJustD();
        versionsOfTheLast();
        versionsOfAllAtHand();
        secondBehindNone();
        secondBehindRefusals();
        orderOfManyUnits();
        orderOfPassagesAndOthers();
        orderOfEightUnitsBackwards();
        stepOfOneHard();
        Check.end();
    }

    private static PaperSetter ofMany(int questions) {
        PaperSetter x = new PaperSetter();
        for (int q = 0; q < questions; q++) {
            x.question(0, 0, 1, 1, 1);
        }
        return x;
    }

    /** Those of the SET REST from now on, for as long as no further TERM comes. */
    private static PaperSetter ofManyThatRest(int questions, int set) {
        PaperSetter x = ofMany(questions);
        x.rest(1);
        x.use(set);
        x.term();
        return x;
    }

    private static int lowest(int count) {
        return (1 << count) - 1;
    }

    /** NONE: more than 16 are at hand, of how many there ever are. */
    private static void bestOfManyAtHand() {
        for (int n = 0; n <= 24; n++) {
            for (int resting = 0; resting <= n; resting++) {
                PaperSetter low = ofManyThatRest(n, lowest(resting));
                PaperSetter high = ofManyThatRest(n, lowest(n) & ~lowest(n - resting));
                low.profile(0, 1000);
                high.profile(0, 1000);
                boolean isTold = n - resting <= 16;
                int lowDue = lowest(n) & ~lowest(resting);
                Check.due("best(), lowest REST, " + resting + " of " + n, low.best(), isTold ? lowDue : NONE);
                int highDue = lowest(n - resting);
                Check.due("best(), highest REST, " + resting + " of " + n, high.best(), isTold ? highDue : NONE);
            }
        }
    }

    private static void whyOfManyAtHand() {
        for (int n = 0; n <= 24; n++) {
            for (int resting = 0; resting <= n; resting++) {
                PaperSetter x = ofManyThatRest(n, lowest(resting));
                boolean isTold = n - resting <= 16;
                Check.due("why(), a PAPER, " + resting + " of " + n, x.why(), isTold ? 0 : NONE);
                x.bound(2, n - resting, n - resting);
                Check.due("why(), one PAPER, " + resting + " of " + n, x.why(), isTold ? 0 : NONE);
                x.bound(2, n - resting + 1, 1000);
                Check.due("why(), no PAPER, " + resting + " of " + n, x.why(), isTold ? 4 : NONE);
                Check.due("best(), no PAPER, " + resting + " of " + n, x.best(), isTold ? NO_PAPER : NONE);
            }
        }
    }

    private static void versionsOfManyAtHand() {
        for (int n = 0; n <= 24; n++) {
            for (int resting = 0; resting <= n; resting++) {
                PaperSetter x = ofManyThatRest(n, lowest(resting));
                boolean isTold = n - resting <= 10;
                int due = n - resting >= 2 ? 1 << (n - 2) : NO_PAPER;
                Check.due("versions(0), " + resting + " of " + n, x.versions(0), isTold ? due : NONE);
                int second = isTold && n - resting >= 2 ? 1 << (n - 1) : 0;
                Check.due("second(), " + resting + " of " + n, x.second(), second);
            }
        }
    }

    /** QUESTIONS at hand are those that do not REST, one PASSAGE or not. */
    private static void atHandAreQuestionsNotUnits() {
        PaperSetter x = ofMany(24);
        for (int q = 0; q < 24; q++) {
            x.passage(q, q % 2);
        }
        x.profile(0, 12);
        Check.due("best() of 24 in two UNITS", x.best(), NONE);
        Check.due("why() of 24 in two UNITS", x.why(), NONE);
        Check.due("versions(0) of 24 in two UNITS", x.versions(0), NONE);
        PaperSetter y = ofMany(11);
        for (int q = 0; q < 11; q++) {
            y.passage(q, q % 2);
        }
        y.profile(0, 5);
        Check.due("best() of 11 in two UNITS", y.best(), 0b01010101010);
        Check.due("versions(1) of 11 in two UNITS", y.versions(1), NONE);
        y.rest(1);
        y.use(1 << 10);
        y.term();
        Check.due("versions(1) of 10, one of the PASSAGE RESTS", y.versions(1), NO_PAPER);
        y.passage(10, NONE);
        Check.due("versions(1) of 10 in two UNITS", y.versions(1), 0b0101010101);
    }

    /** One of a PASSAGE RESTS: the others of it are at hand, though in no FIT SET. */
    private static void atHandThoughNotFit() {
        PaperSetter x = ofManyThatRest(18, 1);
        x.passage(0, 0);
        x.passage(1, 0);
        x.profile(0, 24);
        Check.due("at hand of 18", x.count(1), 17);
        Check.due("best(), one at hand not FIT", x.best(), NONE);
        Check.due("why(), one at hand not FIT", x.why(), NONE);
        x.use(1 << 17);
        x.rest(2);
        x.term();
        Check.due("at hand of 18, two REST", x.count(1), 16);
        Check.due("best() of 15 FIT ones", x.best(), lowest(17) & ~3);
        Check.due("why() of 15 FIT ones", x.why(), 0);
        x.bound(0, 16, 16);
        Check.due("best() of 16, 15 of them FIT", x.best(), NO_PAPER);
        Check.due("why() of 16, 15 of them FIT", x.why(), 1);
    }

    private static void bestOfTheLast() {
        PaperSetter x = ofManyThatRest(24, ALL >> 1);
        x.bound(0, 1, 1);
        Check.due("best() of QUESTION 23 alone", x.best(), 1 << 23);
        x.bound(0, 2, 2);
        Check.due("best() of two of one", x.best(), NO_PAPER);
    }

    /** Each BOUND: the sum of all sixteen is its least and its greatest, and then one off. */
    private static void bestJustWithinBounds() {
        for (int b = 0; b < 10; b++) {
            PaperSetter x = new PaperSetter();
            for (int q = 0; q < 16; q++) {
                x.question(q % 4, q % 3, 60, 40, 1);
            }
            for (int topic = 0; topic < 4; topic++) {
                x.profile(topic, 1000);
            }
            int sum = x.look(65535, 10 + b);
            x.bound(b, sum, sum);
            Check.due("best() of just the sum " + b, x.best(), 65535);
            Check.due("why() of just the sum " + b, x.why(), 0);
            x.bound(b, sum + 1, 1000);
            Check.due("best() above the sum " + b, x.best(), NO_PAPER);
            Check.due("why() above the sum " + b, x.why(), 1 << b);
            x.bound(b, 0, sum - 1);
            Check.due("best() below the sum " + b + " is not all", x.best() < 65535, true);
            Check.due("why() below the sum " + b, x.why(), 0);
        }
    }

    /** One MARK of SPREAD goes before fewer QUESTIONS, one QUESTION fewer before lower numbers. */
    private static void bestByLeastDifferences() {
        PaperSetter x = new PaperSetter();
        int[] marks = {1, 2, 3, 5};
        for (int m : marks) {
            x.question(0, 0, 1, m, 1);
        }
        x.profile(0, 6);
        Check.due("{0, 3} is 6, as {0, 1, 2} is; {3} is one off", x.best(), 0b1001);
        x.gives(0, 3, true);
        Check.due("{0, 1, 2} is 6; {3} is one off", x.best(), 0b0111);
        x.gives(1, 2, true);
        Check.due("none is 6: {3} is 5, {1, 3} is 7", x.best(), 0b1000);
    }

    /** 0: there is a PAPER; one BOUND alone if no FIT SET keeps it. */
    private static void whyOfOneOrNone() {
        for (int b = 0; b < 10; b++) {
            PaperSetter x = new PaperSetter();
            for (int q = 0; q < 4; q++) {
                x.question(q, q % 3, 1, 1, 1);
            }
            int most = x.look(15, 10 + b);
            x.bound(b, most, most);
            Check.due("why() of the most of " + b, x.why(), 0);
            x.bound(b, most + 1, most + 1);
            Check.due("why() of one more of " + b, x.why(), 1 << b);
            if (b < 9) {
                x.bound(9, 1000, 1000);
                Check.due("why() of two alone, the least", x.why(), 1 << b);
            }
        }
    }

    private static void dueTwo(String what, PaperSetter x, int d, int first, int second) {
        Check.due(what + ": versions(" + d + ")", x.versions(d), first);
        Check.due(what + ": second()", x.second(), second);
    }

    /** Of all such twos (neither empty), though empty ones are PAPERS of least SPREAD. */
    private static void neitherVersionIsEmpty() {
        dueTwo("none", ofMany(0), 1000, NO_PAPER, 0);
        dueTwo("one", ofMany(1), 1000, NO_PAPER, 0);
        dueTwo("two", ofMany(2), 1000, 1, 2);
        PaperSetter x = ofMany(2);
        x.passage(0, 0);
        x.passage(1, 0);
        dueTwo("one PASSAGE of two", x, 1000, NO_PAPER, 0);
        x.passage(1, 1);
        dueTwo("two PASSAGES of one", x, 0, 1, 2);
        x.bound(0, 0, 0);
        dueTwo("no QUESTIONS at all", x, 1000, NO_PAPER, 0);
    }

    private static void versionsDifferByJustD() {
        for (int d = 0; d < 39; d++) {
            PaperSetter x = new PaperSetter();
            x.question(0, 0, 7, 1 + d, 1);
            x.question(0, 0, 7, 1, 1);
            dueTwo("MARKS differ by " + d, x, d, 1, 2);
            dueTwo("MARKS differ by " + d + ", one too many", x, Math.max(0, d - 1), d > 0 ? NO_PAPER : 1, d > 0 ? 0 : 2);
            PaperSetter y = new PaperSetter();
            y.question(0, 0, 1, 7, 1);
            y.question(0, 0, 1 + d, 7, 1);
            dueTwo("MINUTES differ by " + d, y, d, 1, 2);
            dueTwo("MINUTES differ by " + d + ", one too many", y, Math.max(0, d - 1), d > 0 ? NO_PAPER : 1, d > 0 ? 0 : 2);
        }
    }

    private static void versionsOfTheLast() {
        PaperSetter x = ofManyThatRest(24, ALL >> 2);
        dueTwo("QUESTIONS 22 and 23", x, 0, 1 << 22, 1 << 23);
        PaperSetter y = ofManyThatRest(24, ALL >> 1);
        dueTwo("QUESTION 23 alone", y, 1000, NO_PAPER, 0);
        PaperSetter z = ofManyThatRest(24, ALL >> 1 & ~1);
        dueTwo("QUESTIONS 0 and 23", z, 0, 1, 1 << 23);
    }

    /** All ten stand in one of the two, just as many as may be at hand. */
    private static void versionsOfAllAtHand() {
        PaperSetter x = ofMany(10);
        x.bound(0, 5, 10);
        dueTwo("five each", x, 0, 0b1111000001, 0b0000111110);
        x.bound(0, 6, 10);
        dueTwo("six each", x, 1000, NO_PAPER, 0);
        x.bound(0, 1, 9);
        x.profile(0, 9);
        x.bound(2, 9, 9);
        dueTwo("nine MARKS each", x, 1000, NO_PAPER, 0);
        x.bound(2, 0, 1000);
        dueTwo("nine and one differ by 8", x, 8, 0b1111111101, 0b0000000010);
        dueTwo("eight and two differ by 6", x, 7, 0b1111111001, 0b0000000110);
    }

    /** 0 if the latest versions() told none, or none was made. */
    private static void secondBehindNone() {
        PaperSetter x = ofMany(2);
        Check.due("second(), none was made", x.second(), 0);
        dueTwo("two", x, 0, 1, 2);
        x.gives(0, 1, true);
        dueTwo("two that give one another away", x, 0, 1, 2);
        x.bound(0, 2, 2);
        Check.due("second() behind bound", x.second(), 2);
        dueTwo("two each", x, 0, NO_PAPER, 0);
        x.bound(0, 0, 1000);
        Check.due("second() behind -2 stays 0", x.second(), 0);
        dueTwo("two once more", x, 0, 1, 2);
    }

    /** A call that is refused changes nothing: the latest TWO VERSIONS stay. */
    private static void secondBehindRefusals() {
        PaperSetter x = ofMany(2);
        dueTwo("two", x, 0, 1, 2);
        dueTwo("D below 0", x, -1, NONE, 2);
        dueTwo("D above 1000", x, 1001, NONE, 2);
        for (int q = 2; q < 11; q++) {
            x.question(0, 0, 1, 1, 1);
        }
        dueTwo("11 at hand", x, 0, NONE, 2);
        PaperSetter y = ofMany(1);
        dueTwo("one", y, 0, NO_PAPER, 0);
        dueTwo("D below 0 behind none", y, -1, NONE, 0);
    }

    /** NONE: more than 8 UNITS. */
    private static void orderOfManyUnits() {
        for (int n = 0; n <= 24; n++) {
            PaperSetter x = ofMany(24);
            int set = lowest(n) << (24 - n);
            Check.due("order of " + n + " UNITS", x.order(set), n <= 8 ? 0 : NONE);
            Check.due("QUESTIONS in it", x.count(5), n <= 8 ? n : 0);
            Check.due("ALIKE in it", x.count(4), n >= 1 && n <= 8 ? n - 1 : 0);
            for (int i = 0; i < n; i++) {
                Check.due("place(" + i + ") of " + n, x.place(i), n <= 8 ? 24 - n + i : NONE);
            }
        }
    }

    /** A UNIT is a QUESTION without a PASSAGE, or all of the SET that are of one PASSAGE. */
    private static void orderOfPassagesAndOthers() {
        PaperSetter x = ofMany(24);
        for (int q = 0; q < 22; q++) {
            x.passage(q, q % 6);
        }
        Check.due("six PASSAGES and two", x.order(ALL), 0);
        Check.due("all 24 in it", x.count(5), 24);
        Check.due("the second one of the first PASSAGE", x.place(1), 6);
        x.passage(21, NONE);
        Check.due("six PASSAGES and three", x.order(ALL), NONE);
        Check.due("the latest ORDER stays", x.count(5), 24);
        Check.due("six PASSAGES and three, but one", x.order(ALL & ~(1 << 21)), 0);
        Check.due("23 in it", x.count(5), 23);
        int withoutPassage0 = ALL & ~(1 | 1 << 6 | 1 << 12 | 1 << 18);
        Check.due("five PASSAGES and three", x.order(withoutPassage0), 0);
        Check.due("20 in it", x.count(5), 20);
        Check.due("one of PASSAGE 0 makes a UNIT", x.order(withoutPassage0 | 1 << 18), NONE);
    }

    private static void orderOfEightUnitsBackwards() {
        PaperSetter x = new PaperSetter();
        for (int q = 0; q < 9; q++) {
            x.question(q % 2, 0, 1, 1, 9 - q);
        }
        Check.due("order of the lowest eight", x.order(0b011111111), 0);
        for (int i = 0; i < 8; i++) {
            Check.due("place(" + i + ") of the lowest eight", x.place(i), 7 - i);
        }
        Check.due("order of the highest eight", x.order(0b111111110), 0);
        for (int i = 0; i < 8; i++) {
            Check.due("place(" + i + ") of the highest eight", x.place(i), 8 - i);
        }
        Check.due("order of nine", x.order(0b111111111), NONE);
        Check.due("the latest ORDER stays", x.place(0), 8);
    }

    /** A STEP DOWN is where one is followed by one that is less HARD; one as HARD is none. */
    private static void stepOfOneHard() {
        for (int hard = 1; hard < 9; hard++) {
            int[][] follows = {{hard, hard, 0}, {hard, hard + 1, 0}, {hard + 1, hard, 1}};
            for (int[] f : follows) {
                PaperSetter x = new PaperSetter();
                x.question(0, 0, 1, 1, f[0]);
                x.question(1, 0, 1, 1, f[1]);
                x.passage(0, 5);
                x.passage(1, 5);
                Check.due("STEPS DOWN from " + f[0] + " to " + f[1], x.order(3), f[2]);
                Check.due("ALIKE of two TOPICS", x.count(4), 0);
            }
        }
    }
}
