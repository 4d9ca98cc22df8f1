import java.util.Random;

/** Long runs of mixed calls, each answer compared with that of the model. */
public final class ModelTest {
    private static final int RUNS = 1500;
    private static final int CALLS = 512;
    /** The last calls of a run look at term after term, so that no change goes unseen. */
    private static final int LOOKS = 152;
    /** In runs that are to fill the net, fewer calls are left for that. */
    private static final int FEW_LOOKS = 32;

    private final Due due;
    private final Random random;
    private final TermNet net = new TermNet();
    private final Model model = new Model();
    /** How often calls of each kind come, and how far back they reach, differs from run to run. */
    private final int signsAtStart;
    private final int growth;
    private final int share;
    private final int reach;
    private final int pointShare;
    private final int markShare;
    private final int looks;
    private int holding = 0;
    private int refused = 0;

    private ModelTest(Due due, int seed) {
        this.due = due;
        // Random's first numbers are almost the same for seeds that lie close together.
        random = new Random(seed * 0x9E3779B97F4A7C15L);
        boolean toBeFull = random.nextInt(8) == 0;
        signsAtStart = 1 + random.nextInt(random.nextInt(10) == 0 ? 45 : 6);
        growth = toBeFull ? 100 - random.nextInt(8) : 15 + random.nextInt(70);
        share = 10 + random.nextInt(60);
        reach = random.nextInt(3) == 0 ? 6 : 400;
        pointShare = random.nextInt(3) == 0 ? 0 : random.nextInt(12);
        markShare = toBeFull || random.nextInt(8) == 0 ? 90 : 50;
        looks = toBeFull ? FEW_LOOKS : LOOKS;
    }

    public static void main(String[] args) {
        Due due = new Due("ModelTest");
        int holding = 0;
        int refused = 0;
        int fullOfTerms = 0;
        int fullOfPoints = 0;
        int fullOfSigns = 0;
        for (int seed = 1; seed <= RUNS && !due.anyWrong(); seed++) {
            due.about("run " + seed);
            ModelTest run = new ModelTest(due, seed);
            run.all();
            holding += run.holding;
            refused += run.refused;
            fullOfTerms += run.model.count(1) == Nets.MAX_TERMS ? 1 : 0;
            fullOfPoints += run.model.count(2) == Nets.MAX_POINTS ? 1 : 0;
            fullOfSigns += run.model.count(0) == Nets.MAX_SIGNS ? 1 : 0;
        }
        System.out.println("ModelTest: " + holding + " equations held, " + refused + " did not");
        due.about("both kinds of equations come often");
        int least = Math.min(holding, refused);
        due.is(true, () -> least > 10 * RUNS);
        System.out.println("ModelTest: runs that end full of terms, points, signs: " + fullOfTerms
                + ", " + fullOfPoints + ", " + fullOfSigns);
        due.about("runs come to each limit");
        int rarest = Math.min(fullOfTerms, Math.min(fullOfPoints, fullOfSigns));
        due.is(true, () -> rarest >= 10);
        due.end();
    }

    private void all() {
        for (int n = 0; n < signsAtStart; n++) {
            sign(random.nextInt(4));
        }
        for (int n = signsAtStart; n < CALLS - looks && !due.anyWrong(); n++) {
            call();
        }
        compare("count(4)", () -> model.count(4), () -> net.count(4));
        compare("count(5)", () -> model.count(5), () -> net.count(5));
        int terms = model.count(1);
        for (int n = 0; n < (looks - 2) / 3 && n < terms; n++) {
            lookAt(terms - 1 - n);
        }
    }

    private void call() {
        int kind = random.nextInt(100);
        if (kind < pointShare) {
            markOrBack();
        } else if (random.nextInt(100) < growth) {
            grow();
        } else if (random.nextInt(100) < share) {
            equation();
        } else {
            ask();
        }
    }

    private void markOrBack() {
        if (random.nextInt(100) < markShare) {
            compare("mark()", () -> model.mark(), () -> net.mark());
        } else {
            compare("back()", () -> model.back(), () -> net.back());
        }
    }

    private void grow() {
        int kind = random.nextInt(20);
        if (kind == 0) {
            sign(random.nextInt(6) - 1);
        } else if (kind < 8) {
            compare("unknown()", () -> model.unknown(), () -> net.unknown());
        } else {
            int s = random.nextInt(40) == 0 ? random.nextInt(60) - 5 : someSign();
            int a = someTerm();
            int b = someTerm();
            int c = someTerm();
            compare("term(" + s + ", " + a + ", " + b + ", " + c + ")",
                    () -> model.term(s, a, b, c), () -> net.term(s, a, b, c));
        }
    }

    private void sign(int n) {
        compare("sign(" + n + ")", () -> model.sign(n), () -> net.sign(n));
    }

    private void equation() {
        int a = someTerm();
        int b = someTerm();
        String answer = compare("equal(" + a + ", " + b + ")",
                () -> model.equal(a, b), () -> net.equal(a, b));
        holding += answer.equals("true") ? 1 : 0;
        refused += answer.equals("false") ? 1 : 0;
    }

    private void ask() {
        int a = someTerm();
        int b = someTerm();
        int k = random.nextInt(5) - 1;
        int what = random.nextInt(8) - 1;
        String one = "(" + a + ")";
        String two = "(" + a + ", " + b + ")";
        switch (random.nextInt(9)) {
            case 0 -> compare("same" + two, () -> model.same(a, b), () -> net.same(a, b));
            case 1 -> compare("top" + one, () -> model.top(a), () -> net.top(a));
            case 2 -> compare("part(" + a + ", " + k + ")",
                    () -> model.part(a, k), () -> net.part(a, k));
            case 3 -> compare("least" + one, () -> model.least(a), () -> net.least(a));
            case 4 -> compare("size" + one, () -> model.size(a), () -> net.size(a));
            case 5 -> compare("depth" + one, () -> model.depth(a), () -> net.depth(a));
            case 6 -> compare("inside" + two, () -> model.inside(a, b), () -> net.inside(a, b));
            case 7 -> compare("unknowns" + one,
                    () -> model.unknowns(a), () -> net.unknowns(a));
            default -> compare("count(" + what + ")",
                    () -> model.count(what), () -> net.count(what));
        }
    }

    private void lookAt(int t) {
        compare("least(" + t + ")", () -> model.least(t), () -> net.least(t));
        compare("top(" + t + ")", () -> model.top(t), () -> net.top(t));
        compare("unknowns(" + t + ")", () -> model.unknowns(t), () -> net.unknowns(t));
    }

    private int someSign() {
        return random.nextInt(Math.max(1, model.count(0)));
    }

    /** Now and then one that is not there. */
    private int someTerm() {
        int terms = model.count(1);
        if (terms == 0 || random.nextInt(60) == 0) {
            return random.nextInt(440) - 20;
        }
        return terms - 1 - random.nextInt(Math.min(terms, reach));
    }

    private String compare(String call, Due.Call wanted, Due.Call got) {
        String want = Due.answerOf(wanted);
        due.told(call + " = " + want, call + " = " + Due.answerOf(got));
        return want;
    }
}
