import java.util.Arrays;

/** A setter of exam papers; what each call answers stands in the document's promises 1 to 19. */
public final class PaperSetter {
    public static final int NONE = -1;

    private static final int NO_PAPER = -2;

    private static final int MOST_QUESTIONS = 24;
    private static final int MOST_FOR_BEST = 16;
    private static final int MOST_FOR_VERSIONS = 10;
    private static final int MOST_ORDERED_UNITS = 8;
    private static final int PASSAGES = 6;
    private static final int TOPICS = 4;
    private static final int SKILLS = 3;
    private static final int MOST_MINUTES = 60;
    private static final int MOST_MARKS = 40;
    private static final int MOST_HARD = 9;
    private static final int MOST_SUM = 1000;
    private static final int MOST_REST = 9;
    private static final int LAST_TERM = 1000;

    // What told() numbers.
    private static final int TOPIC = 0;
    private static final int SKILL = 1;
    private static final int MINUTES = 2;
    private static final int MARKS = 3;
    private static final int HARD = 4;
    private static final int PASSAGE = 5;
    private static final int USED = 6;
    private static final int FACTS = 7;

    // The sums that BOUNDS are of.
    private static final int SUM_QUESTIONS = 0;
    private static final int SUM_MINUTES = 1;
    private static final int SUM_MARKS = 2;
    private static final int SUM_TOPIC_0 = 3;
    private static final int SUM_SKILL_0 = 7;
    private static final int BOUNDS = 10;
    private static final int ALL_BOUNDS = (1 << BOUNDS) - 1;

    private static final int LOOK_SUM_0 = 10;
    /** Above every SPREAD and every cost. */
    private static final int ABOVE_ALL = 1000000;
    private static final int[] NOTHING_MORE = {0, 0, 0, 0, 0, 0, 0, 0, 0, 0};

    private final Bank bank;
    private final Limits limits;
    private final Units units;
    private final BestSearch bestSearch;
    private final WhySearch whySearch;
    private final VersionSearch versionSearch;
    private final Ordering ordering;
    private final int[] sumsLookedAt;
    private int secondVersion;

    public PaperSetter() {
        bank = new Bank();
        limits = new Limits();
        units = new Units();
        bestSearch = new BestSearch(units, limits);
        whySearch = new WhySearch(units, limits);
        versionSearch = new VersionSearch(units, limits);
        ordering = new Ordering();
        sumsLookedAt = new int[BOUNDS];
        secondVersion = 0;
    }

    public int question(int topic, int skill, int minutes, int marks, int hard) {
        boolean kindIsKnown = within(topic, 0, TOPICS - 1) && within(skill, 0, SKILLS - 1);
        boolean weightIsKnown = within(minutes, 1, MOST_MINUTES) && within(marks, 1, MOST_MARKS)
                && within(hard, 1, MOST_HARD);
        if (!kindIsKnown || !weightIsKnown || bank.size >= MOST_QUESTIONS) {
            return NONE;
        }
        int[] facts = bank.facts[bank.size];
        facts[TOPIC] = topic;
        facts[SKILL] = skill;
        facts[MINUTES] = minutes;
        facts[MARKS] = marks;
        facts[HARD] = hard;
        facts[PASSAGE] = NONE;
        facts[USED] = NONE;
        bank.size++;
        return bank.size - 1;
    }

    public boolean passage(int q, int p) {
        if (!bank.has(q) || !within(p, NONE, PASSAGES - 1)) {
            return false;
        }
        bank.facts[q][PASSAGE] = p;
        return true;
    }

    public boolean gives(int a, int b, boolean is) {
        if (!bank.has(a) || !bank.has(b) || a == b) {
            return false;
        }
        boolean isSo = contains(bank.givesAway[a], b);
        if (isSo == is) {
            return false;
        }
        bank.givesAway[a] ^= 1 << b;
        return true;
    }

    public boolean bound(int b, int least, int greatest) {
        boolean sumsAreKnown = within(least, 0, MOST_SUM) && within(greatest, 0, MOST_SUM);
        if (!within(b, 0, BOUNDS - 1) || !sumsAreKnown || least > greatest) {
            return false;
        }
        limits.least[b] = least;
        limits.greatest[b] = greatest;
        return true;
    }

    public boolean profile(int topic, int marks) {
        if (!within(topic, 0, TOPICS - 1) || !within(marks, 0, MOST_SUM)) {
            return false;
        }
        limits.wished[topic] = marks;
        return true;
    }

    public boolean rest(int r) {
        if (!within(r, 0, MOST_REST)) {
            return false;
        }
        bank.restTerms = r;
        return true;
    }

    public int term() {
        if (bank.termNow >= LAST_TERM) {
            return NONE;
        }
        bank.termNow++;
        return bank.termNow;
    }

    public boolean use(int set) {
        if (!bank.hasAll(set)) {
            return false;
        }
        for (int q = 0; q < bank.size; q++) {
            if (contains(set, q)) {
                bank.facts[q][USED] = bank.termNow;
            }
        }
        return true;
    }

    public int rests(int q) {
        if (!bank.has(q)) {
            return NONE;
        }
        return oneIf(bank.isResting(q));
    }

    public int look(int set, int what) {
        if (!bank.hasAll(set)) {
            return NONE;
        }
        bank.sumUp(set, sumsLookedAt);
        if (within(what, LOOK_SUM_0, LOOK_SUM_0 + BOUNDS - 1)) {
            return sumsLookedAt[what - LOOK_SUM_0];
        }
        int broken = limits.surelyBroken(sumsLookedAt, NOTHING_MORE);
        switch (what) {
            case 0:
                return oneIf(bank.isFit(set));
            case 1:
                return oneIf(bank.isFit(set) && broken == 0);
            case 2:
                return limits.leastSpread(sumsLookedAt, NOTHING_MORE);
            case 3:
                return broken;
            default:
                return NONE;
        }
    }

    public int best() {
        if (bank.countAtHand() > MOST_FOR_BEST) {
            return NONE;
        }
        units.splitBank(bank);
        return bestSearch.findBest();
    }

    public int why() {
        if (bank.countAtHand() > MOST_FOR_BEST) {
            return NONE;
        }
        units.splitBank(bank);
        return whySearch.findFewestUnkept();
    }

    public int versions(int d) {
        if (!within(d, 0, MOST_SUM) || bank.countAtHand() > MOST_FOR_VERSIONS) {
            return NONE;
        }
        units.splitBank(bank);
        versionSearch.findTwo(d);
        secondVersion = versionSearch.bestSecond;
        return versionSearch.bestFirst == 0 ? NO_PAPER : versionSearch.bestFirst;
    }

    public int second() {
        return secondVersion;
    }

    public int order(int set) {
        if (!bank.hasAll(set) || !ordering.splitSet(bank, set)) {
            return NONE;
        }
        ordering.arrange(bank);
        return ordering.stepsDown;
    }

    public int place(int i) {
        if (!within(i, 0, ordering.placed - 1)) {
            return NONE;
        }
        return ordering.places[i];
    }

    public int told(int q, int what) {
        if (!bank.has(q) || !within(what, 0, FACTS - 1)) {
            return NONE;
        }
        return bank.facts[q][what];
    }

    public int count(int what) {
        switch (what) {
            case 0:
                return bank.size;
            case 1:
                return bank.countAtHand();
            case 2:
                return bank.termNow;
            case 3:
                return bank.restTerms;
            case 4:
                return ordering.alike;
            case 5:
                return ordering.placed;
            default:
                return NONE;
        }
    }

    private static boolean within(int number, int least, int greatest) {
        return number >= least && number <= greatest;
    }

    private static int oneIf(boolean is) {
        return is ? 1 : 0;
    }

    private static boolean contains(int set, int member) {
        return ((set >>> member) & 1) == 1;
    }

    private static int lowestOf(int set) {
        return set & -set;
    }

    /** The QUESTIONS, what is known of each, and the TERMS in which they REST. */
    private static final class Bank {
        final int[][] facts = new int[MOST_QUESTIONS][FACTS];
        final int[] givesAway = new int[MOST_QUESTIONS];
        int size = 0;
        int termNow = 1;
        int restTerms = 0;

        boolean has(int q) {
            return within(q, 0, size - 1);
        }

        boolean hasAll(int set) {
            return (set >>> size) == 0;
        }

        boolean isResting(int q) {
            int used = facts[q][USED];
            return used != NONE && termNow > used && termNow - used <= restTerms;
        }

        int countAtHand() {
            int atHand = 0;
            for (int q = 0; q < size; q++) {
                atHand += isResting(q) ? 0 : 1;
            }
            return atHand;
        }

        /** QUESTION q with all that must be in a SET with it. */
        int wholeOf(int q) {
            int p = facts[q][PASSAGE];
            int whole = 1 << q;
            for (int other = 0; p != NONE && other < size; other++) {
                if (facts[other][PASSAGE] == p) {
                    whole |= 1 << other;
                }
            }
            return whole;
        }

        boolean isFit(int set) {
            for (int q = 0; q < size; q++) {
                if (contains(set, q) && !fitsInto(set, q)) {
                    return false;
                }
            }
            return true;
        }

        private boolean fitsInto(int set, int q) {
            return !isResting(q) && (givesAway[q] & set) == 0 && (wholeOf(q) & ~set) == 0;
        }

        /** All that give one of the SET away, or are given away by one of it. */
        int clashesWith(int set) {
            int clashes = 0;
            for (int q = 0; q < size; q++) {
                if (contains(set, q)) {
                    clashes |= givesAway[q];
                }
                if ((givesAway[q] & set) != 0) {
                    clashes |= 1 << q;
                }
            }
            return clashes;
        }

        void sumUp(int set, int[] sums) {
            for (int b = 0; b < BOUNDS; b++) {
                sums[b] = 0;
                for (int q = 0; q < size; q++) {
                    sums[b] += contains(set, q) ? weightOf(q, b) : 0;
                }
            }
        }

        private int weightOf(int q, int b) {
            int marks = facts[q][MARKS];
            if (b == SUM_QUESTIONS) {
                return 1;
            }
            if (b == SUM_MINUTES) {
                return facts[q][MINUTES];
            }
            if (b == SUM_MARKS) {
                return marks;
            }
            if (b < SUM_SKILL_0) {
                return facts[q][TOPIC] == b - SUM_TOPIC_0 ? marks : 0;
            }
            return facts[q][SKILL] == b - SUM_SKILL_0 ? marks : 0;
        }
    }

    /**
     * BOUNDS and THE PROFILE. A SET that may still grow is judged by its sums and by what may come
     * to them at most; with nothing more to come the judgement is exact.
     */
    private static final class Limits {
        final int[] least = new int[BOUNDS];
        final int[] greatest = new int[BOUNDS];
        final int[] wished = new int[TOPICS];

        Limits() {
            Arrays.fill(greatest, MOST_SUM);
        }

        int surelyBroken(int[] sums, int[] more) {
            int broken = 0;
            for (int b = 0; b < BOUNDS; b++) {
                if (sums[b] > greatest[b] || sums[b] + more[b] < least[b]) {
                    broken |= 1 << b;
                }
            }
            return broken;
        }

        int leastSpread(int[] sums, int[] more) {
            int spread = 0;
            for (int topic = 0; topic < TOPICS; topic++) {
                int marks = sums[SUM_TOPIC_0 + topic];
                int mostMarks = marks + more[SUM_TOPIC_0 + topic];
                spread += Math.max(0, Math.max(marks - wished[topic], wished[topic] - mostMarks));
            }
            return spread;
        }
    }

    /**
     * The least FIT parts of the bank: each FIT SET is made of some of them. They stand by their
     * lowest QUESTIONS.
     */
    private static final class Units {
        final int[] members = new int[MOST_FOR_BEST];
        final int[] clashes = new int[MOST_FOR_BEST];
        final int[][] sums = new int[MOST_FOR_BEST][BOUNDS];
        final int[][] sumsFrom = new int[MOST_FOR_BEST + 1][BOUNDS];
        int size = 0;

        void splitBank(Bank bank) {
            size = 0;
            for (int q = 0; q < bank.size && size < MOST_FOR_BEST; q++) {
                int whole = bank.wholeOf(q);
                if (lowestOf(whole) == 1 << q && bank.isFit(whole)) {
                    members[size] = whole;
                    clashes[size] = bank.clashesWith(whole);
                    bank.sumUp(whole, sums[size]);
                    size++;
                }
            }
            sumUpFromEachOn();
        }

        private void sumUpFromEachOn() {
            Arrays.fill(sumsFrom[size], 0);
            for (int u = size - 1; u >= 0; u--) {
                for (int b = 0; b < BOUNDS; b++) {
                    sumsFrom[u][b] = sums[u][b] + sumsFrom[u + 1][b];
                }
            }
        }
    }

    /** A walk through all FIT SETS, UNIT by UNIT, that leaves out what is hopeless. */
    private abstract static class Search {
        final Units units;
        final Limits limits;
        final int[] sums = new int[BOUNDS];
        int set = 0;
        int takenUnits = 0;

        Search(Units units, Limits limits) {
            this.units = units;
            this.limits = limits;
        }

        /** Whether no SET that has the UNITS taken, and of those from depth on any, is looked for. */
        abstract boolean isHopeless(int depth);

        abstract void meet();

        /** Take and drop come in pairs, so that each walk begins and ends with the empty SET. */
        void walkAll() {
            walk(this, 0);
        }

        private static void walk(Search search, int depth) {
            if (depth > search.units.size || search.isHopeless(depth)) {
                return;
            }
            if (depth == search.units.size) {
                search.meet();
                return;
            }
            if ((search.units.clashes[depth] & search.set) == 0) {
                search.take(depth);
                walk(search, depth + 1);
                search.drop(depth);
            }
            walk(search, depth + 1);
        }

        private void take(int unit) {
            set |= units.members[unit];
            takenUnits |= 1 << unit;
            for (int b = 0; b < BOUNDS; b++) {
                sums[b] += units.sums[unit][b];
            }
        }

        private void drop(int unit) {
            set &= ~units.members[unit];
            takenUnits &= ~(1 << unit);
            for (int b = 0; b < BOUNDS; b++) {
                sums[b] -= units.sums[unit][b];
            }
        }
    }

    /** THE BEST. */
    private static final class BestSearch extends Search {
        private int bestSet = NO_PAPER;
        private int bestSpread = ABOVE_ALL;
        private int bestCount = 0;

        BestSearch(Units units, Limits limits) {
            super(units, limits);
        }

        int findBest() {
            bestSet = NO_PAPER;
            bestSpread = ABOVE_ALL;
            bestCount = 0;
            walkAll();
            return bestSet;
        }

        /**
         * The walk takes a UNIT before it leaves it out, so of SETS with like SPREADS and counts the
         * one that has the lowest QUESTION in which they differ is met first, and no later one counts.
         */
        boolean isHopeless(int depth) {
            if (limits.surelyBroken(sums, units.sumsFrom[depth]) != 0) {
                return true;
            }
            int spread = limits.leastSpread(sums, units.sumsFrom[depth]);
            return spread > bestSpread
                    || (spread == bestSpread && sums[SUM_QUESTIONS] >= bestCount);
        }

        /** Not hopeless with nothing left to take: it is a PAPER, and better than the best so far. */
        void meet() {
            bestSet = set;
            bestSpread = limits.leastSpread(sums, NOTHING_MORE);
            bestCount = sums[SUM_QUESTIONS];
        }
    }

    /** WHY there is no PAPER. */
    private static final class WhySearch extends Search {
        /** By BOUNDS as bits: whether a FIT SET is known that keeps them together. */
        private final boolean[] kept = new boolean[ALL_BOUNDS + 1];

        WhySearch(Units units, Limits limits) {
            super(units, limits);
        }

        int findFewestUnkept() {
            for (int bounds = 0; bounds <= ALL_BOUNDS; bounds++) {
                kept[bounds] = false;
            }
            walkAll();
            int fewest = 0;
            for (int bounds = 1; bounds <= ALL_BOUNDS; bounds++) {
                boolean isFewer = fewest == 0 || Integer.bitCount(bounds) < Integer.bitCount(fewest);
                if (!kept[bounds] && isFewer) {
                    fewest = bounds;
                }
            }
            return fewest;
        }

        boolean isHopeless(int depth) {
            return kept[keepable(depth)];
        }

        void meet() {
            int keeps = keepable(units.size);
            for (int bounds = 0; bounds <= keeps; bounds++) {
                if ((bounds & ~keeps) == 0) {
                    kept[bounds] = true;
                }
            }
        }

        private int keepable(int depth) {
            return ALL_BOUNDS & ~limits.surelyBroken(sums, units.sumsFrom[depth]);
        }
    }

    /** TWO VERSIONS: first all PAPERS are put down by their UNITS as bits, then paired. */
    private static final class VersionSearch extends Search {
        private final int[] papers = new int[1 << MOST_FOR_VERSIONS];
        private final int[] minutes = new int[1 << MOST_FOR_VERSIONS];
        private final int[] marks = new int[1 << MOST_FOR_VERSIONS];
        private final int[] spreads = new int[1 << MOST_FOR_VERSIONS];
        private int bestSpread = ABOVE_ALL;
        private int bestCount = 0;
        int bestFirst = 0;
        int bestSecond = 0;

        VersionSearch(Units units, Limits limits) {
            super(units, limits);
        }

        /** The two are bestFirst and bestSecond then; both 0 if there are none. */
        void findTwo(int d) {
            bestSpread = ABOVE_ALL;
            bestCount = 0;
            bestFirst = 0;
            bestSecond = 0;
            Arrays.fill(papers, 0);
            walkAll();
            int allUnits = (1 << Math.min(units.size, MOST_FOR_VERSIONS)) - 1;
            for (int first = 1; first <= allUnits; first++) {
                if (papers[first] != 0) {
                    pairWithOthers(first, allUnits, d);
                }
            }
        }

        boolean isHopeless(int depth) {
            return depth > MOST_FOR_VERSIONS
                    || limits.surelyBroken(sums, units.sumsFrom[depth]) != 0;
        }

        void meet() {
            papers[takenUnits] = set;
            minutes[takenUnits] = sums[SUM_MINUTES];
            marks[takenUnits] = sums[SUM_MARKS];
            spreads[takenUnits] = limits.leastSpread(sums, NOTHING_MORE);
        }

        /**
         * The lowest QUESTION of both is the first one's, so the second is of later UNITS alone. Each
         * second is below the one before it, as a mask never adds: the loop comes to 0 and ends.
         */
        private void pairWithOthers(int first, int allUnits, int d) {
            int earlier = lowestOf(first) - 1;
            int free = allUnits & ~first & ~earlier;
            for (int second = free; second > 0; second = (second - 1) & free) {
                boolean isNear = papers[second] != 0 && spreads[first] + spreads[second] <= bestSpread;
                if (isNear && areAlike(first, second, d) && isBetter(first, second)) {
                    bestSpread = spreads[first] + spreads[second];
                    bestCount = countOfBoth(first, second);
                    bestFirst = papers[first];
                    bestSecond = papers[second];
                }
            }
        }

        private boolean areAlike(int first, int second, int d) {
            return Math.abs(marks[first] - marks[second]) <= d
                    && Math.abs(minutes[first] - minutes[second]) <= d;
        }

        private boolean isBetter(int first, int second) {
            int spread = spreads[first] + spreads[second];
            if (spread != bestSpread) {
                return spread < bestSpread;
            }
            int both = countOfBoth(first, second);
            if (both != bestCount) {
                return both < bestCount;
            }
            if (papers[first] != bestFirst) {
                return papers[first] > bestFirst;
            }
            return papers[second] > bestSecond;
        }

        private int countOfBoth(int first, int second) {
            return Integer.bitCount(papers[first] | papers[second]);
        }
    }

    /** THE ORDER of a SET, by the least costs of what may stand behind each of its UNITS. */
    private static final class Ordering {
        /** One STEP DOWN outweighs all that can be ALIKE. */
        private static final int STEP_COST = 32;
        private static final int ALIKE_COST = 1;

        private final int[] members = new int[MOST_ORDERED_UNITS];
        private final int[] firstQuestions = new int[MOST_ORDERED_UNITS];
        private final int[] lastQuestions = new int[MOST_ORDERED_UNITS];
        private final int[][] joinCosts = new int[MOST_ORDERED_UNITS][MOST_ORDERED_UNITS];
        /** By UNITS that are still to stand, as bits, and the UNIT that they stand behind. */
        private final int[] restCosts = new int[(1 << MOST_ORDERED_UNITS) * MOST_ORDERED_UNITS];
        private int size = 0;
        final int[] places = new int[MOST_QUESTIONS];
        int placed = 0;
        int stepsDown = 0;
        int alike = 0;

        /** False if there are too many UNITS; the latest ORDER stays as it was then. */
        boolean splitSet(Bank bank, int set) {
            size = 0;
            for (int q = 0; q < bank.size; q++) {
                int unit = bank.wholeOf(q) & set;
                if (lowestOf(unit) == 1 << q) {
                    if (size >= MOST_ORDERED_UNITS) {
                        return false;
                    }
                    members[size] = unit;
                    firstQuestions[size] = q;
                    lastQuestions[size] = highestOf(unit);
                    size++;
                }
            }
            return true;
        }

        void arrange(Bank bank) {
            reckonJoinCosts(bank);
            reckonRestCosts();
            placeUnits();
            countSteps(bank);
        }

        private static int highestOf(int set) {
            int highest = 0;
            for (int q = 0; q < MOST_QUESTIONS; q++) {
                if (contains(set, q)) {
                    highest = q;
                }
            }
            return highest;
        }

        private void reckonJoinCosts(Bank bank) {
            for (int unit = 0; unit < size; unit++) {
                for (int next = 0; next < size; next++) {
                    int before = lastQuestions[unit];
                    int behind = firstQuestions[next];
                    joinCosts[unit][next] = oneIf(isStepDown(bank, before, behind)) * STEP_COST
                            + oneIf(areAlike(bank, before, behind)) * ALIKE_COST;
                }
            }
        }

        /** Nothing to stand costs nothing: those rows are 0 from the beginning, and stay so. */
        private void reckonRestCosts() {
            for (int rest = 1; rest < (1 << size); rest++) {
                for (int unit = 0; unit < size; unit++) {
                    if (!contains(rest, unit)) {
                        int next = cheapestBehind(unit, rest);
                        restCosts[rest * MOST_ORDERED_UNITS + unit] = costBehind(unit, rest, next);
                    }
                }
            }
        }

        /** A negative unit: nothing stands yet. */
        private int costBehind(int unit, int rest, int next) {
            int joinCost = unit < 0 ? 0 : joinCosts[unit][next];
            int restBehindNext = rest & ~(1 << next);
            return joinCost + restCosts[restBehindNext * MOST_ORDERED_UNITS + next];
        }

        /** UNITS stand by their first QUESTIONS, so the lowest of the cheapest makes the least ORDER. */
        private int cheapestBehind(int unit, int rest) {
            int cheapest = 0;
            int leastCost = ABOVE_ALL;
            for (int next = 0; next < size; next++) {
                int cost = contains(rest, next) ? costBehind(unit, rest, next) : ABOVE_ALL;
                if (cost < leastCost) {
                    cheapest = next;
                    leastCost = cost;
                }
            }
            return cheapest;
        }

        private void placeUnits() {
            placed = 0;
            int rest = (1 << size) - 1;
            int unit = NONE;
            for (int i = 0; i < size; i++) {
                unit = cheapestBehind(unit, rest);
                rest &= ~(1 << unit);
                placeQuestions(members[unit]);
            }
        }

        private void placeQuestions(int set) {
            for (int q = 0; q < MOST_QUESTIONS && placed < MOST_QUESTIONS; q++) {
                if (contains(set, q)) {
                    places[placed] = q;
                    placed++;
                }
            }
        }

        private void countSteps(Bank bank) {
            stepsDown = 0;
            alike = 0;
            for (int i = 1; i < placed; i++) {
                stepsDown += oneIf(isStepDown(bank, places[i - 1], places[i]));
                alike += oneIf(areAlike(bank, places[i - 1], places[i]));
            }
        }

        private static boolean isStepDown(Bank bank, int before, int behind) {
            return bank.facts[behind][HARD] < bank.facts[before][HARD];
        }

        private static boolean areAlike(Bank bank, int before, int behind) {
            return bank.facts[behind][TOPIC] == bank.facts[before][TOPIC];
        }
    }
}
