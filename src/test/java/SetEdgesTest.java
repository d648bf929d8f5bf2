/** The empty SET, the empty bank, the full bank, and the bits that no QUESTION has. */
public final class SetEdgesTest {
    private static final int NONE = PaperSetter.NONE;
    private static final int NO_PAPER = -2;
    private static final int ALL = (1 << 24) - 1;

    public static void main(String[] args) {
        emptyBankTells();
        emptyBankRefuses();
        emptyBankSearches();
        emptySetIsFit();
        emptySetIsPaper();
        emptySetIsNoPaper();
        emptySetSums();
        emptySetIsUsed();
        emptySetIsOrdered();
        usedBits();
        lookedAtBits();
        orderedBits();
        fullBankLooks();
        fullBankIsUsed();
        fullBankIsOrdered();
        lastQuestionGives();
        passageOfAll();
        passageOfOne();
        Check.end();
    }

    private static PaperSetter ofMany(int questions) {
        PaperSetter x = new PaperSetter();
        for (int q = 0; q < questions; q++) {
            x.question(0, 0, 1, 1, 1);
        }
        return x;
    }

    /** A new object: no QUESTIONS, TERM 1. */
    private static void emptyBankTells() {
        PaperSetter x = new PaperSetter();
        int[] counts = {0, 0, 1, 0, 0, 0};
        for (int what = 0; what < counts.length; what++) {
            Check.due("count(" + what + ") of the empty bank", x.count(what), counts[what]);
        }
        Check.due("second() of the empty bank", x.second(), 0);
        Check.due("place(0) of the empty bank", x.place(0), NONE);
    }

    private static void emptyBankRefuses() {
        PaperSetter x = new PaperSetter();
        Check.due("passage(0, 0) of the empty bank", x.passage(0, 0), false);
        Check.due("passage(0, NONE) of the empty bank", x.passage(0, NONE), false);
        Check.due("gives(0, 1, true) of the empty bank", x.gives(0, 1, true), false);
        Check.due("gives(0, 1, false) of the empty bank", x.gives(0, 1, false), false);
        Check.due("use(1) of the empty bank", x.use(1), false);
        Check.due("rests(0) of the empty bank", x.rests(0), NONE);
        Check.due("look(1, 0) of the empty bank", x.look(1, 0), NONE);
        Check.due("order(1) of the empty bank", x.order(1), NONE);
        Check.due("told(0, 0) of the empty bank", x.told(0, 0), NONE);
    }

    private static void emptyBankSearches() {
        PaperSetter x = new PaperSetter();
        Check.due("best() of the empty bank", x.best(), 0);
        Check.due("why() of the empty bank", x.why(), 0);
        Check.due("versions(0) of the empty bank", x.versions(0), NO_PAPER);
        Check.due("versions(1000) of the empty bank", x.versions(1000), NO_PAPER);
        Check.due("second() behind them", x.second(), 0);
        Check.due("order(0) of the empty bank", x.order(0), 0);
        for (int b = 9; b >= 0; b--) {
            x.bound(b, 1, 1000);
            Check.due("best() of the empty bank, BOUND " + b, x.best(), NO_PAPER);
            Check.due("why() of the empty bank, BOUND " + b, x.why(), 1 << b);
        }
    }

    private static void emptySetIsFit() {
        PaperSetter x = ofMany(3);
        x.passage(0, 0);
        x.gives(0, 1, true);
        x.rest(9);
        x.use(7);
        x.term();
        Check.due("all REST", x.count(1), 0);
        Check.due("the empty SET is FIT", x.look(0, 0), 1);
    }

    /** A PAPER is a FIT SET within all BOUNDS (the empty one, too). */
    private static void emptySetIsPaper() {
        PaperSetter x = ofMany(3);
        Check.due("the empty SET is a PAPER", x.look(0, 1), 1);
        Check.due("the empty SET is THE BEST", x.best(), 0);
        Check.due("there is a PAPER", x.why(), 0);
        for (int b = 0; b < 10; b++) {
            x.bound(b, 0, 0);
        }
        Check.due("within BOUNDS of 0", x.look(0, 1), 1);
        x.profile(0, 1000);
        Check.due("THE BEST, though far from THE PROFILE", x.best(), 0);
        Check.due("still there is a PAPER", x.why(), 0);
    }

    private static void emptySetIsNoPaper() {
        for (int b = 0; b < 10; b++) {
            PaperSetter x = ofMany(3);
            x.bound(b, 1, 1000);
            Check.due("least 1 of BOUND " + b, x.look(0, 1), 0);
            Check.due("least 1 of BOUND " + b + " is broken", x.look(0, 3), 1 << b);
            Check.due("it is FIT still", x.look(0, 0), 1);
        }
    }

    private static void emptySetSums() {
        PaperSetter x = ofMany(3);
        x.profile(0, 1000);
        x.profile(3, 1);
        Check.due("SPREAD of the empty SET", x.look(0, 2), 1001);
        for (int b = 0; b < 10; b++) {
            Check.due("the empty SET's sum " + b, x.look(0, 10 + b), 0);
        }
    }

    private static void emptySetIsUsed() {
        PaperSetter x = ofMany(2);
        Check.due("use(0)", x.use(0), true);
        Check.due("none is USED by it", x.told(0, 6), NONE);
        Check.due("nor the other one", x.told(1, 6), NONE);
        x.use(1);
        x.term();
        Check.due("use(0) in TERM 2", x.use(0), true);
        Check.due("the USE in TERM 1 stays", x.told(0, 6), 1);
    }

    private static void emptySetIsOrdered() {
        PaperSetter x = ofMany(3);
        Check.due("order(7)", x.order(7), 0);
        Check.due("ALIKE of three", x.count(4), 2);
        Check.due("order(0)", x.order(0), 0);
        Check.due("ALIKE of none", x.count(4), 0);
        Check.due("QUESTIONS of none", x.count(5), 0);
        Check.due("place(0) of none", x.place(0), NONE);
    }

    /** False: no such QUESTIONS, be it one bit of the SET alone. */
    private static void usedBits() {
        for (int n = 0; n <= 24; n++) {
            for (int bit = 0; bit < 32; bit++) {
                PaperSetter x = ofMany(n);
                int set = 1 << bit | (n > 0 ? 1 : 0);
                Check.due("use of bit " + bit + " of " + n, x.use(set), bit < n);
                Check.due("the first one's USE", x.told(0, 6), bit < n ? 1 : NONE);
                Check.due("its own USE", x.told(bit, 6), bit < n ? 1 : NONE);
            }
        }
    }

    private static void lookedAtBits() {
        for (int n = 0; n <= 24; n++) {
            PaperSetter x = ofMany(n);
            int low = n > 0 ? 1 : 0;
            for (int bit = 0; bit < 32; bit++) {
                int set = 1 << bit | low;
                int count = bit > 0 ? 2 : 1;
                Check.due("look at bit " + bit + " of " + n, x.look(set, 10), bit < n ? count : NONE);
                Check.due("FIT, bit " + bit + " of " + n, x.look(set, 0), bit < n ? 1 : NONE);
                Check.due("broken, bit " + bit + " of " + n, x.look(set, 3), bit < n ? 0 : NONE);
            }
            Check.due("look at all bits", x.look(-1, 0), NONE);
            Check.due("look at all bits but the sign", x.look(Integer.MAX_VALUE, 0), NONE);
        }
    }

    private static void orderedBits() {
        for (int n = 0; n <= 24; n++) {
            PaperSetter x = ofMany(n);
            for (int bit = 0; bit < 32; bit++) {
                x.order(0);
                Check.due("order of bit " + bit + " of " + n, x.order(1 << bit), bit < n ? 0 : NONE);
                Check.due("QUESTIONS in the ORDER", x.count(5), bit < n ? 1 : 0);
                Check.due("the one in the ORDER", x.place(0), bit < n ? bit : NONE);
            }
            Check.due("order of all bits", x.order(-1), NONE);
        }
    }

    private static void fullBankLooks() {
        PaperSetter x = new PaperSetter();
        for (int q = 0; q < 24; q++) {
            x.question(q % 4, q % 3, 60, 40, 9);
        }
        int[] sums = {24, 1440, 960, 240, 240, 240, 240, 320, 320, 320};
        for (int b = 0; b < 10; b++) {
            Check.due("the full bank's sum " + b, x.look(ALL, 10 + b), sums[b]);
        }
        Check.due("the full bank is FIT", x.look(ALL, 0), 1);
        Check.due("the full bank is no PAPER by its MINUTES", x.look(ALL, 1), 0);
        Check.due("the full bank's SPREAD", x.look(ALL, 2), 960);
    }

    private static void fullBankIsUsed() {
        PaperSetter x = ofMany(24);
        x.rest(1);
        Check.due("use of all", x.use(ALL), true);
        Check.due("at hand in the TERM of the USE", x.count(1), 24);
        x.term();
        Check.due("at hand when all REST", x.count(1), 0);
        Check.due("best() when all REST", x.best(), 0);
        Check.due("why() when all REST", x.why(), 0);
        Check.due("versions(1000) when all REST", x.versions(1000), NO_PAPER);
        x.bound(0, 1, 1000);
        Check.due("best() when all REST, at least one", x.best(), NO_PAPER);
        Check.due("why() when all REST, at least one", x.why(), 1);
    }

    private static void fullBankIsOrdered() {
        PaperSetter x = new PaperSetter();
        for (int q = 0; q < 24; q++) {
            x.question(q / 6, 0, 1, 1, 9 - q / 3);
            x.passage(q, 5 - q / 4);
        }
        Check.due("PASSAGES of 4: STEPS DOWN within them alone", x.order(ALL), 6);
        Check.due("ALIKE in the full ORDER", x.count(4), 16);
        Check.due("QUESTIONS in the full ORDER", x.count(5), 24);
        for (int i = 0; i < 24; i++) {
            Check.due("the full ORDER's place " + i, x.place(i), 4 * (5 - i / 4) + i % 4);
        }
    }

    private static void lastQuestionGives() {
        PaperSetter x = ofMany(24);
        Check.due("gives(23, 22, true)", x.gives(23, 22, true), true);
        Check.due("gives(22, 23, false)", x.gives(22, 23, false), false);
        Check.due("gives(0, 23, true)", x.gives(0, 23, true), true);
        Check.due("the last two", x.look(3 << 22, 0), 0);
        Check.due("the first and the last", x.look(1 << 23 | 1, 0), 0);
        Check.due("all but the last", x.look(ALL >> 1, 0), 1);
        Check.due("the last alone", x.look(1 << 23, 0), 1);
    }

    /** With one of a PASSAGE all of that PASSAGE are in it. */
    private static void passageOfAll() {
        PaperSetter x = ofMany(24);
        for (int q = 0; q < 24; q++) {
            x.passage(q, 0);
        }
        Check.due("a PASSAGE of all", x.look(ALL, 0), 1);
        for (int q = 0; q < 24; q++) {
            Check.due("all but " + q, x.look(ALL & ~(1 << q), 0), 0);
            Check.due("only " + q, x.look(1 << q, 0), 0);
        }
        Check.due("order of one UNIT of 24", x.order(ALL), 0);
        Check.due("its last place", x.place(23), 23);
    }

    private static void passageOfOne() {
        PaperSetter x = ofMany(6);
        for (int q = 0; q < 6; q++) {
            x.passage(q, q);
        }
        for (int set = 0; set < 64; set++) {
            Check.due("PASSAGES of one each, " + set, x.look(set, 0), 1);
        }
    }
}
