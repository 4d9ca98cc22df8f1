import java.util.function.IntUnaryOperator;

/** The largest nets that 512 calls can make, and that no number of calls breaks the object. */
public final class LimitTest {
    private static final int MAX_TERMS = Nets.MAX_TERMS;
    private static final Due due = new Due("LimitTest");

    public static void main(String[] args) {
        deepestTree();
        twoDeepTrees();
        deepTreeBelowItself();
        longestChainOfEquations();
        twinsAllTheWayUp();
        chainOfBoundUnknowns();
        equationsUndoneOverAndOver();
        manyMoreCalls();
        due.end();
    }

    private static void deepestTree() {
        due.about("a tree of 400 levels");
        TermNet x = Nets.withSigns();
        Nets.tower(x, x.unknown(), MAX_TERMS - 1);
        due.is(MAX_TERMS, () -> x.count(1));
        due.is(MAX_TERMS, () -> x.depth(MAX_TERMS - 1));
        due.is(MAX_TERMS, () -> x.size(MAX_TERMS - 1));
        due.is(1, () -> x.unknowns(MAX_TERMS - 1));
        due.is(true, () -> x.inside(0, MAX_TERMS - 1));
        due.is(false, () -> x.equal(0, MAX_TERMS - 1));
        due.is(MAX_TERMS, () -> x.count(4));
        due.is(MAX_TERMS - 1, () -> x.count(5));
    }

    private static void twoDeepTrees() {
        due.about("two trees of 200 levels made one");
        TermNet x = Nets.withSigns();
        int left = Nets.tower(x, x.unknown(), 199);
        int right = Nets.tower(x, x.unknown(), 199);
        due.is(MAX_TERMS, () -> x.count(4));
        x.mark();
        due.is(true, () -> x.equal(left, right));
        due.is(200, () -> x.count(4));
        due.is(true, () -> x.same(0, 200));
        due.is(left, () -> x.least(right));
        x.back();
        due.is(MAX_TERMS, () -> x.count(4));
        due.is(false, () -> x.same(0, 200));
        due.is(true, () -> x.equal(0, right));
        due.is(399, () -> x.depth(left));
    }

    private static void deepTreeBelowItself() {
        due.about("a cycle over 398 levels");
        TermNet x = Nets.withSigns();
        int a = x.unknown();
        int b = x.unknown();
        int top = Nets.tower(x, a, 398);
        due.is(true, () -> x.equal(b, top));
        due.is(false, () -> x.equal(a, b));
        due.is(-1, () -> x.top(a));
        due.is(399, () -> x.count(4));
        due.is(399, () -> x.depth(b));
    }

    private static void longestChainOfEquations() {
        due.about("as many equations as calls allow, from below and from above");
        chain(n -> n, n -> n + 1);
        chain(n -> 249 - n, n -> 248 - n);
    }

    private static void chain(IntUnaryOperator one, IntUnaryOperator other) {
        TermNet x = Nets.withSigns();
        for (int n = 0; n <= 249; n++) {
            x.unknown();
        }
        x.mark();
        for (int n = 0; n < 249; n++) {
            int a = one.applyAsInt(n);
            int b = other.applyAsInt(n);
            due.is(true, () -> x.equal(a, b));
        }
        due.is(1, () -> x.count(4));
        due.is(0, () -> x.least(249));
        due.is(249, () -> x.count(3));
        x.back();
        due.is(250, () -> x.count(4));
        due.is(249, () -> x.least(249));
        due.is(0, () -> x.count(3));
    }

    private static void twinsAllTheWayUp() {
        due.about("one equation below makes 199 pairs SAME");
        TermNet x = Nets.withSigns();
        int left = Nets.tower(x, x.unknown(), 199);
        int right = Nets.tower(x, x.unknown(), 199);
        x.mark();
        due.is(true, () -> x.equal(200, 0));
        due.is(true, () -> x.same(left, right));
        due.is(200, () -> x.count(4));
        due.is(199, () -> x.count(5));
        x.back();
        due.is(false, () -> x.same(left, right));
        due.is(398, () -> x.count(5));
    }

    /** Each UNKNOWN stands for a TERM that is made after it, so trees go against the numbers. */
    private static void chainOfBoundUnknowns() {
        due.about("a tree through bound unknowns");
        TermNet x = Nets.withSigns();
        int levels = 160;
        for (int n = 0; n <= levels; n++) {
            x.unknown();
        }
        for (int n = 0; n < levels; n++) {
            int below = n + 1;
            int t = x.term(2, below, below, 0);
            int u = n;
            due.is(true, () -> x.equal(u, t));
        }
        due.is(levels + 1, () -> x.depth(0));
        due.is(1000000000, () -> x.size(0));
        due.is(1, () -> x.unknowns(0));
        due.is(true, () -> x.inside(levels, 0));
        due.is(false, () -> x.equal(levels, 0));
        due.is(1, () -> x.part(0, 1));
    }

    private static void equationsUndoneOverAndOver() {
        due.about("the same points and equations again and again");
        TermNet x = Nets.withSigns();
        int left = Nets.tower(x, x.unknown(), 99);
        int right = Nets.tower(x, x.unknown(), 99);
        for (int n = 0; n < 60; n++) {
            due.is(1, () -> x.mark());
            due.is(true, () -> x.equal(right, left));
            due.is(100, () -> x.count(4));
            due.is(0, () -> x.back());
        }
        due.is(200, () -> x.count(4));
        due.is(0, () -> x.count(3));
    }

    /** Answers are free then; but a call still ends, and throws nothing that is not on the face. */
    private static void manyMoreCalls() {
        due.about("far more than 512 calls");
        TermNet x = Nets.withSigns();
        for (int n = 0; n < 3000; n++) {
            int a = (n * 7919) % 500 - 20;
            int b = (n * 104729) % 450 - 20;
            String[] answers = {
                Due.answerOf(() -> x.sign(a % 4)), Due.answerOf(() -> x.unknown()),
                Due.answerOf(() -> x.term(a % 9, b, a, b)), Due.answerOf(() -> x.equal(a, b)),
                Due.answerOf(() -> x.part(a, b % 4)), Due.answerOf(() -> x.size(a)),
                Due.answerOf(() -> x.depth(b)), Due.answerOf(() -> x.inside(a, b)),
                Due.answerOf(() -> x.unknowns(a)), Due.answerOf(() -> a % 3 == 0 ? x.mark() : 0),
                Due.answerOf(() -> a % 5 == 0 ? x.back() : 0), Due.answerOf(() -> x.count(5)),
            };
            for (String answer : answers) {
                due.told("true", String.valueOf(onTheFace(answer)));
            }
        }
    }

    private static boolean onTheFace(String answer) {
        return !answer.startsWith("throws.")
                || answer.equals("throws.IllegalArgumentException")
                || answer.equals("throws.IndexOutOfBoundsException")
                || answer.equals("throws.NoSuchElementException");
    }
}
