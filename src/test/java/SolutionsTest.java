import java.util.Random;

/**
 * Short runs on small nets, each answer compared with what all SOLUTIONS, written out, say.
 *
 * <p>How high trees must be tried: below an UNKNOWN lie different groups alone, so never higher
 * than there are TERMS; and if PARTS are UNKNOWNS or SIGNS without parts ("flat"), never higher
 * than one more than there are UNKNOWNS.
 */
public final class SolutionsTest {
    private static final int MOST_TERMS = 9;
    private static final int STEPS = 45;
    private static final int MOST_PARTS = 3;

    private final Due due;
    private final Random random;
    private final boolean flat;
    private final int[] partsOfSign;
    private final TermNet net = new TermNet();
    private final Solutions solutions;
    private int holding = 0;
    private int refused = 0;

    private SolutionsTest(Due due, int seed, int[] partsOfSign, int unknowns, boolean flat) {
        this.due = due;
        // Random's first numbers are almost the same for seeds that lie close together.
        random = new Random(seed * 0x9E3779B97F4A7C15L);
        this.flat = flat;
        this.partsOfSign = partsOfSign;
        solutions = new Solutions(partsOfSign, MOST_TERMS, flat ? unknowns + 1 : MOST_TERMS);
        for (int s = 0; s < partsOfSign.length; s++) {
            net.sign(partsOfSign[s]);
        }
        for (int n = 0; n < unknowns; n++) {
            compare("unknown()", () -> solutions.unknown(), () -> net.unknown());
        }
    }

    public static void main(String[] args) {
        Due due = new Due("SolutionsTest");
        runs(due, 150, new int[] {0, 1}, 3, false);
        runs(due, 50, new int[] {0, 1, 0}, 3, false);
        runs(due, 100, new int[] {0, 1, 2}, 2, true);
        runs(due, 50, new int[] {2}, 3, true);
        runs(due, 200, new int[] {2, 1}, 2, true);
        runs(due, 200, new int[] {3}, 2, true);
        due.end();
    }

    private static void runs(Due due, int runs, int[] partsOfSign, int unknowns, boolean flat) {
        int holding = 0;
        int refused = 0;
        for (int seed = 1; seed <= runs && !due.anyWrong(); seed++) {
            due.about(partsOfSign.length + " signs, " + unknowns + " unknowns, run " + seed);
            SolutionsTest run = new SolutionsTest(due, seed, partsOfSign, unknowns, flat);
            run.all();
            holding += run.holding;
            refused += run.refused;
        }
        int rarer = Math.min(holding, refused);
        due.about("both kinds of equations come often");
        due.is(true, () -> rarer > 2 * runs);
    }

    private void all() {
        for (int step = 0; step < STEPS && !due.anyWrong(); step++) {
            step();
        }
        for (int what = 0; what <= 5; what++) {
            int w = what;
            compare("count(" + w + ")", () -> solutions.count(w), () -> net.count(w));
        }
        for (int a = 0; a < solutions.count(1) && !due.anyWrong(); a++) {
            lookAt(a);
        }
    }

    private void step() {
        int kind = random.nextInt(100);
        if (kind < 8) {
            compare("mark()", () -> solutions.mark(), () -> net.mark());
        } else if (kind < 16) {
            compare("back()", () -> solutions.back(), () -> net.back());
        } else if (kind < 50 && !solutions.isFull()) {
            term();
        } else {
            equation();
        }
    }

    private void term() {
        int s = random.nextInt(partsOfSign.length);
        int[] parts = new int[MOST_PARTS];
        for (int k = 0; k < MOST_PARTS; k++) {
            parts[k] = somePart();
        }
        compare("term(" + s + ", " + parts[0] + ", " + parts[1] + ", " + parts[2] + ")",
                () -> solutions.term(s, parts), () -> net.term(s, parts[0], parts[1], parts[2]));
    }

    private int somePart() {
        int t = random.nextInt(solutions.count(1));
        while (flat && !solutions.isLeaf(t)) {
            t = random.nextInt(solutions.count(1));
        }
        return t;
    }

    private void equation() {
        int a = random.nextInt(solutions.count(1));
        int b = random.nextInt(solutions.count(1));
        String answer = compare("equal(" + a + ", " + b + ")",
                () -> solutions.equal(a, b), () -> net.equal(a, b));
        holding += answer.equals("true") ? 1 : 0;
        refused += answer.equals("false") ? 1 : 0;
    }

    private void lookAt(int a) {
        String one = "(" + a + ")";
        compare("top" + one, () -> solutions.top(a), () -> net.top(a));
        compare("least" + one, () -> solutions.least(a), () -> net.least(a));
        compare("size" + one, () -> solutions.size(a), () -> net.size(a));
        compare("depth" + one, () -> solutions.depth(a), () -> net.depth(a));
        compare("unknowns" + one, () -> solutions.unknowns(a), () -> net.unknowns(a));
        for (int k = -1; k <= MOST_PARTS; k++) {
            int part = k;
            compare("part(" + a + ", " + k + ")",
                    () -> solutions.part(a, part), () -> net.part(a, part));
        }
        for (int b = 0; b < solutions.count(1); b++) {
            lookAtBoth(a, b);
        }
    }

    private void lookAtBoth(int a, int b) {
        String two = "(" + a + ", " + b + ")";
        compare("same" + two, () -> solutions.same(a, b), () -> net.same(a, b));
        compare("inside" + two, () -> solutions.inside(a, b), () -> net.inside(a, b));
    }

    private String compare(String call, Due.Call wanted, Due.Call got) {
        String want = Due.answerOf(wanted);
        due.told(call + " = " + want, call + " = " + Due.answerOf(got));
        return want;
    }
}
