import java.util.ArrayList;
import java.util.Arrays;
import java.util.List;

/**
 * The document once more, in its plainest form: every SET, every two and every order is tried, and
 * each is judged from its QUESTIONS anew. The program's answers are held against these.
 */
final class NaiveSetter {
    private static final int NONE = -1;

    /** One QUESTION: what told() tells of it, by number, and the QUESTIONS that it GIVES AWAY. */
    private static final class Question {
        final int[] facts;
        final List<Integer> givesAway = new ArrayList<>();

        Question(int... facts) {
            this.facts = facts;
        }
    }

    private final List<Question> questions = new ArrayList<>();
    private final int[] least = new int[10];
    private final int[] greatest = new int[10];
    private final int[] wished = new int[4];
    private int term = 1;
    private int rest = 0;
    private int second = 0;
    private List<Integer> order = new ArrayList<>();

    NaiveSetter() {
        Arrays.fill(greatest, 1000);
    }

    int question(int topic, int skill, int minutes, int marks, int hard) {
        if (topic < 0 || topic > 3 || skill < 0 || skill > 2 || minutes < 1 || minutes > 60
                || marks < 1 || marks > 40 || hard < 1 || hard > 9 || questions.size() == 24) {
            return NONE;
        }
        questions.add(new Question(topic, skill, minutes, marks, hard, NONE, NONE));
        return questions.size() - 1;
    }

    private boolean has(int q) {
        return q >= 0 && q < questions.size();
    }

    private boolean isSet(int set) {
        return set >= 0 && set < (1L << questions.size());
    }

    boolean passage(int q, int p) {
        if (!has(q) || p < NONE || p > 5) {
            return false;
        }
        questions.get(q).facts[5] = p;
        return true;
    }

    boolean gives(int a, int b, boolean is) {
        if (!has(a) || !has(b) || a == b || questions.get(a).givesAway.contains(b) == is) {
            return false;
        }
        if (is) {
            questions.get(a).givesAway.add(b);
        } else {
            questions.get(a).givesAway.remove(Integer.valueOf(b));
        }
        return true;
    }

    boolean bound(int b, int low, int high) {
        if (b < 0 || b > 9 || low < 0 || high > 1000 || low > high) {
            return false;
        }
        least[b] = low;
        greatest[b] = high;
        return true;
    }

    boolean profile(int topic, int marks) {
        if (topic < 0 || topic > 3 || marks < 0 || marks > 1000) {
            return false;
        }
        wished[topic] = marks;
        return true;
    }

    boolean rest(int r) {
        if (r < 0 || r > 9) {
            return false;
        }
        rest = r;
        return true;
    }

    int term() {
        return term == 1000 ? NONE : ++term;
    }

    boolean use(int set) {
        if (!isSet(set)) {
            return false;
        }
        for (int q : listed(set)) {
            questions.get(q).facts[6] = term;
        }
        return true;
    }

    int rests(int q) {
        if (!has(q)) {
            return NONE;
        }
        int used = questions.get(q).facts[6];
        for (int behind = 1; used != NONE && behind <= rest; behind++) {
            if (used + behind == term) {
                return 1;
            }
        }
        return 0;
    }

    private static List<Integer> listed(int set) {
        List<Integer> list = new ArrayList<>();
        for (int q = 0; q < 24; q++) {
            if ((set & 1 << q) != 0) {
                list.add(q);
            }
        }
        return list;
    }

    private int sum(int set, int b) {
        int sum = 0;
        for (int q : listed(set)) {
            int[] f = questions.get(q).facts;
            if (b == 0) {
                sum += 1;
            } else if (b == 1) {
                sum += f[2];
            } else if (b == 2 || b >= 3 && b <= 6 && f[0] == b - 3 || b >= 7 && f[1] == b - 7) {
                sum += f[3];
            }
        }
        return sum;
    }

    private boolean isFit(int set) {
        for (int q : listed(set)) {
            if (rests(q) == 1) {
                return false;
            }
            int p = questions.get(q).facts[5];
            for (int other = 0; other < questions.size(); other++) {
                boolean isIn = (set & 1 << other) != 0;
                if (!isIn && p != NONE && questions.get(other).facts[5] == p) {
                    return false;
                }
                if (isIn && questions.get(q).givesAway.contains(other)) {
                    return false;
                }
            }
        }
        return true;
    }

    private int broken(int set) {
        int broken = 0;
        for (int b = 0; b < 10; b++) {
            int sum = sum(set, b);
            if (sum < least[b] || sum > greatest[b]) {
                broken += 1 << b;
            }
        }
        return broken;
    }

    private int spread(int set) {
        int spread = 0;
        for (int topic = 0; topic < 4; topic++) {
            spread += Math.abs(sum(set, 3 + topic) - wished[topic]);
        }
        return spread;
    }

    int look(int set, int what) {
        if (!isSet(set)) {
            return NONE;
        }
        if (what == 0) {
            return isFit(set) ? 1 : 0;
        }
        if (what == 1) {
            return isFit(set) && broken(set) == 0 ? 1 : 0;
        }
        if (what == 2) {
            return spread(set);
        }
        if (what == 3) {
            return broken(set);
        }
        return what >= 10 && what <= 19 ? sum(set, what - 10) : NONE;
    }

    private int atHand() {
        int set = 0;
        for (int q = 0; q < questions.size(); q++) {
            set += rests(q) == 0 ? 1 << q : 0;
        }
        return set;
    }

    private List<Integer> fitSets() {
        List<Integer> fit = new ArrayList<>();
        int atHand = atHand();
        int set = atHand;
        while (true) {
            if (isFit(set)) {
                fit.add(set);
            }
            if (set == 0) {
                return fit;
            }
            set = (set - 1) & atHand;
        }
    }

    int best() {
        if (Integer.bitCount(atHand()) > 16) {
            return NONE;
        }
        int best = -2;
        for (int set : fitSets()) {
            if (broken(set) == 0 && (best == -2 || goesBefore(set, best))) {
                best = set;
            }
        }
        return best;
    }

    private boolean goesBefore(int a, int b) {
        if (spread(a) != spread(b)) {
            return spread(a) < spread(b);
        }
        if (Integer.bitCount(a) != Integer.bitCount(b)) {
            return Integer.bitCount(a) < Integer.bitCount(b);
        }
        for (int q = 0; q < 24; q++) {
            if ((a & 1 << q) != (b & 1 << q)) {
                return (a & 1 << q) != 0;
            }
        }
        return false;
    }

    int why() {
        if (Integer.bitCount(atHand()) > 16) {
            return NONE;
        }
        boolean[] breaks = new boolean[1024];
        for (int set : fitSets()) {
            breaks[broken(set)] = true;
        }
        if (breaks[0]) {
            return 0;
        }
        for (int size = 1; size <= 10; size++) {
            for (int bounds = 1; bounds < 1024; bounds++) {
                if (Integer.bitCount(bounds) == size && noneKeeps(bounds, breaks)) {
                    return bounds;
                }
            }
        }
        throw new IllegalStateException("no PAPER, and yet all BOUNDS are kept together");
    }

    private static boolean noneKeeps(int bounds, boolean[] breaks) {
        for (int broken = 0; broken < 1024; broken++) {
            if (breaks[broken] && (broken & bounds) == 0) {
                return false;
            }
        }
        return true;
    }

    int versions(int d) {
        if (d < 0 || d > 1000 || Integer.bitCount(atHand()) > 10) {
            return NONE;
        }
        List<int[]> papers = new ArrayList<>();
        for (int set : fitSets()) {
            if (set != 0 && broken(set) == 0) {
                papers.add(new int[] {set, spread(set), sum(set, 2), sum(set, 1)});
            }
        }
        int[] best = null;
        for (int[] a : papers) {
            for (int[] b : papers) {
                boolean firstIsLowest = Integer.numberOfTrailingZeros(a[0]) < Integer.numberOfTrailingZeros(b[0]);
                boolean areAlike = Math.abs(a[2] - b[2]) <= d && Math.abs(a[3] - b[3]) <= d;
                if ((a[0] & b[0]) == 0 && firstIsLowest && areAlike) {
                    int[] two = {a[1] + b[1], Integer.bitCount(a[0]) + Integer.bitCount(b[0]), -a[0], -b[0]};
                    if (best == null || Arrays.compare(two, best) < 0) {
                        best = two;
                    }
                }
            }
        }
        second = best == null ? 0 : -best[3];
        return best == null ? -2 : -best[2];
    }

    int second() {
        return second;
    }

    int order(int set) {
        if (!isSet(set)) {
            return NONE;
        }
        List<List<Integer>> units = new ArrayList<>();
        List<Integer> passages = new ArrayList<>();
        for (int q : listed(set)) {
            int p = questions.get(q).facts[5];
            if (p == NONE || !passages.contains(p)) {
                units.add(new ArrayList<>());
                passages.add(p);
                units.get(units.size() - 1).add(q);
            } else {
                units.get(passages.indexOf(p)).add(q);
            }
        }
        if (units.size() > 8) {
            return NONE;
        }
        List<List<Integer>> all = new ArrayList<>();
        arrange(units, new ArrayList<>(), all);
        order = all.get(0);
        for (List<Integer> other : all) {
            if (compare(other, order) < 0) {
                order = other;
            }
        }
        return steps(order);
    }

    private static void arrange(List<List<Integer>> left, List<Integer> begun, List<List<Integer>> all) {
        if (left.isEmpty()) {
            all.add(begun);
        }
        for (int u = 0; u < left.size(); u++) {
            List<List<Integer>> others = new ArrayList<>(left);
            List<Integer> longer = new ArrayList<>(begun);
            longer.addAll(others.remove(u));
            arrange(others, longer, all);
        }
    }

    private int compare(List<Integer> a, List<Integer> b) {
        if (steps(a) != steps(b)) {
            return steps(a) - steps(b);
        }
        if (alike(a) != alike(b)) {
            return alike(a) - alike(b);
        }
        for (int i = 0; i < a.size(); i++) {
            if (!a.get(i).equals(b.get(i))) {
                return a.get(i) - b.get(i);
            }
        }
        return 0;
    }

    private int steps(List<Integer> list) {
        int steps = 0;
        for (int i = 0; i + 1 < list.size(); i++) {
            steps += questions.get(list.get(i + 1)).facts[4] < questions.get(list.get(i)).facts[4] ? 1 : 0;
        }
        return steps;
    }

    private int alike(List<Integer> list) {
        int alike = 0;
        for (int i = 0; i + 1 < list.size(); i++) {
            alike += questions.get(list.get(i + 1)).facts[0] == questions.get(list.get(i)).facts[0] ? 1 : 0;
        }
        return alike;
    }

    int place(int i) {
        return i < 0 || i >= order.size() ? NONE : order.get(i);
    }

    int told(int q, int what) {
        return !has(q) || what < 0 || what > 6 ? NONE : questions.get(q).facts[what];
    }

    int count(int what) {
        int[] counts = {questions.size(), Integer.bitCount(atHand()), term, rest, alike(order), order.size()};
        return what < 0 || what > 5 ? NONE : counts[what];
    }
}
