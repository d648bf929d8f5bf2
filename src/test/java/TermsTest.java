/** Promises 7 to 10: rest, term, use, rests. */
public final class TermsTest {
    private static final int NONE = PaperSetter.NONE;

    public static void main(String[] args) {
        restNumbers();
        termNumbers();
        lastTerm();
        useSets();
        useWhileResting();
        restsByTerms();
        Check.end();
    }

    private static void restNumbers() {
        PaperSetter x = new PaperSetter();
        Check.due("rest(9)", x.rest(9), true);
        Check.due("R", x.count(3), 9);
        Check.due("rest(10)", x.rest(10), false);
        Check.due("rest(-1)", x.rest(-1), false);
        Check.due("R behind refusals", x.count(3), 9);
        Check.due("rest(0)", x.rest(0), true);
        Check.due("R of 0", x.count(3), 0);
    }

    private static void termNumbers() {
        PaperSetter x = new PaperSetter();
        Check.due("the TERM of a new object", x.count(2), 1);
        for (int t = 2; t <= 511; t++) {
            Check.due("term()", x.term(), t);
        }
        Check.due("count(2)", x.count(2), 511);
    }

    /**
     * NONE: it would be above 1000. The only test that goes beyond the 512 calls that an object is
     * promised for, as 1000 can't be met within them; the class keeps to this edge all the same.
     */
    private static void lastTerm() {
        PaperSetter x = new PaperSetter();
        x.question(0, 0, 1, 1, 1);
        for (int t = 2; t <= 1000; t++) {
            Check.due("term()", x.term(), t);
        }
        Check.due("term() in TERM 1000", x.term(), NONE);
        Check.due("term() in TERM 1000 again", x.term(), NONE);
        Check.due("the TERM behind refusals", x.count(2), 1000);
        x.use(1);
        Check.due("a USE in the last TERM", x.told(0, 6), 1000);
    }

    private static void useSets() {
        PaperSetter x = new PaperSetter();
        Check.due("use(0) of an empty bank", x.use(0), true);
        Check.due("use(1) of an empty bank", x.use(1), false);
        for (int q = 0; q < 24; q++) {
            x.question(0, 0, 1, 1, 1);
        }
        x.term();
        Check.due("use of the last alone", x.use(1 << 23), true);
        Check.due("its last USE", x.told(23, 6), 2);
        Check.due("the other one's last USE", x.told(22, 6), NONE);
        Check.due("use of bit 24", x.use(1 << 24 | 1), false);
        Check.due("nothing is USED by a refused call", x.told(0, 6), NONE);
        Check.due("use(-1)", x.use(-1), false);
        Check.due("use(least)", x.use(Integer.MIN_VALUE), false);
        Check.due("use of all", x.use((1 << 24) - 1), true);
        Check.due("the first one's last USE", x.told(0, 6), 2);
    }

    private static void useWhileResting() {
        PaperSetter x = new PaperSetter();
        x.question(0, 0, 1, 1, 1);
        x.rest(2);
        x.use(1);
        x.term();
        Check.due("rests(0) in TERM 2", x.rests(0), 1);
        Check.due("use of one that RESTS", x.use(1), true);
        Check.due("it is USED anew", x.told(0, 6), 2);
        Check.due("rests(0) in the TERM of its USE", x.rests(0), 0);
        Check.due("count(1) then", x.count(1), 1);
    }

    private static void restsByTerms() {
        for (int r = 0; r <= 9; r++) {
            PaperSetter x = new PaperSetter();
            x.question(0, 0, 1, 1, 1);
            x.question(0, 0, 1, 1, 1);
            x.term();
            x.rest(r);
            x.use(2);
            for (int behind = 0; behind <= 11; behind++) {
                int due = behind >= 1 && behind <= r ? 1 : 0;
                Check.due("rests, R " + r + ", " + behind + " behind", x.rests(1), due);
                Check.due("never USED", x.rests(0), 0);
                Check.due("count(1)", x.count(1), 2 - due);
                Check.due("look at it", x.look(2, 0), 1 - due);
                x.term();
            }
            Check.due("rests(2)", x.rests(2), NONE);
            Check.due("rests(-1)", x.rests(-1), NONE);
        }
    }
}
