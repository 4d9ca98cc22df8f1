/** Each promise of the document by itself: ordinary inputs, edges and wrong inputs. */
public final class PromiseTest {
    private static final int MAX_SIGNS = Nets.MAX_SIGNS;
    private static final int MAX_TERMS = Nets.MAX_TERMS;
    private static final int MAX_POINTS = Nets.MAX_POINTS;
    private static final int[] NO_TERMS = Nets.NO_TERMS;

    private static final Due due = new Due("PromiseTest");

    public static void main(String[] args) {
        newObject();
        signs();
        unknownTerms();
        termsWithSigns();
        partsThatTheSignHasNot();
        equations();
        clashes();
        refusedEquationChangesNothing();
        noTermBelowItself();
        sameTerms();
        sameByPartsOfEarlierTerms();
        sameByPartsThatChangeLeast();
        tops();
        partsOfKnownTerms();
        leastTerms();
        sizes();
        depths();
        insides();
        unknownsInTrees();
        marks();
        backs();
        backUndoesTermsAndEquations();
        pointsInPoints();
        counts();
        badBeforeFull();
        refusedCallsChangeNothing();
        due.end();
    }

    private static void newObject() {
        due.about("promise 1");
        TermNet x = new TermNet();
        for (int what = 0; what <= 5; what++) {
            int w = what;
            due.is(0, () -> x.count(w));
        }
        due.bad(() -> x.least(0));
        due.bad(() -> x.term(0, 0, 0, 0));
        due.is(0, () -> x.sign(0));
        TermNet y = new TermNet();
        due.is(0, () -> y.count(0));
    }

    private static void signs() {
        due.about("promise 2");
        TermNet x = new TermNet();
        for (int n = 0; n <= 3; n++) {
            int parts = n;
            due.is(n, () -> x.sign(parts));
        }
        due.bad(() -> x.sign(-1));
        due.bad(() -> x.sign(4));
        due.bad(() -> x.sign(Integer.MIN_VALUE));
        due.bad(() -> x.sign(Integer.MAX_VALUE));
        due.is(4, () -> x.count(0));
        for (int n = 4; n < MAX_SIGNS; n++) {
            due.is(n, () -> x.sign(1));
        }
        due.full(() -> x.sign(1));
        due.bad(() -> x.sign(4));
        due.is(MAX_SIGNS, () -> x.count(0));
        due.is(0, () -> x.unknown());
        due.is(1, () -> x.term(MAX_SIGNS - 1, 0, 0, 0));
        due.is(MAX_SIGNS - 1, () -> x.top(1));
    }

    private static void unknownTerms() {
        due.about("promise 3");
        TermNet x = new TermNet();
        for (int n = 0; n < MAX_TERMS; n++) {
            due.is(n, () -> x.unknown());
        }
        due.full(() -> x.unknown());
        due.is(MAX_TERMS, () -> x.count(1));
        due.is(MAX_TERMS, () -> x.count(4));
        due.is(0, () -> x.count(5));
        due.is(false, () -> x.same(0, MAX_TERMS - 1));
        due.is(-1, () -> x.top(MAX_TERMS - 1));
        due.is(true, () -> x.equal(0, MAX_TERMS - 1));
        due.is(0, () -> x.least(MAX_TERMS - 1));
    }

    private static void termsWithSigns() {
        due.about("promise 4");
        TermNet x = Nets.withSigns();
        x.unknown();
        due.is(1, () -> x.term(0, 0, 0, 0));
        due.is(2, () -> x.term(1, 1, 0, 0));
        due.is(3, () -> x.term(2, 2, 0, 0));
        due.is(4, () -> x.term(3, 3, 1, 2));
        due.is(3, () -> x.part(4, 0));
        due.is(1, () -> x.part(4, 1));
        due.is(2, () -> x.part(4, 2));
        due.bad(() -> x.term(4, 0, 0, 0));
        due.bad(() -> x.term(-1, 0, 0, 0));
        due.bad(() -> x.term(3, 5, 0, 0));
        due.bad(() -> x.term(3, 0, 5, 0));
        due.bad(() -> x.term(3, 0, 0, 5));
        due.bad(() -> x.term(1, -1, 0, 0));
        due.bad(() -> x.term(2, 0, -1, 0));
        due.is(5, () -> x.count(1));
        for (int n = 5; n < MAX_TERMS; n++) {
            int last = n - 1;
            due.is(n, () -> x.term(1, last, 0, 0));
        }
        due.full(() -> x.term(0, 0, 0, 0));
        due.is(MAX_TERMS, () -> x.count(1));
    }

    private static void partsThatTheSignHasNot() {
        due.about("promise 4, parts that the sign has not");
        TermNet x = Nets.withSigns();
        due.is(0, () -> x.term(0, -7, Integer.MIN_VALUE, Integer.MAX_VALUE));
        due.is(1, () -> x.term(1, 0, -1, 400));
        due.is(2, () -> x.term(2, 0, 1, -400));
        due.is(3, () -> x.term(1, 0, 0, 0));
        due.is(true, () -> x.same(1, 3));
        due.missing(() -> x.part(1, 1));
        due.missing(() -> x.part(2, 2));
        due.is(2, () -> x.size(1));
        due.is(true, () -> x.equal(1, 3));
    }

    private static void equations() {
        due.about("promise 5");
        TermNet x = Nets.withSigns();
        int a = x.unknown();
        int b = x.unknown();
        int c = x.unknown();
        int d = x.unknown();
        int fab = x.term(2, a, b, 0);
        int fcd = x.term(2, c, d, 0);
        due.is(true, () -> x.equal(fab, fcd));
        due.is(true, () -> x.same(a, c));
        due.is(true, () -> x.same(b, d));
        due.is(false, () -> x.same(a, b));
        due.is(true, () -> x.equal(a, a));
        due.is(true, () -> x.equal(fcd, fab));
        due.is(3, () -> x.count(3));
        for (int none : NO_TERMS) {
            due.bad(() -> x.equal(none, a));
            due.bad(() -> x.equal(a, none));
        }
        due.bad(() -> x.equal(a, fcd + 1));
        due.is(3, () -> x.count(3));
    }

    private static void clashes() {
        due.about("promise 5, signs that clash");
        TermNet x = Nets.withSigns();
        int zero = x.sign(0);
        int a = x.unknown();
        int k = x.term(0, 0, 0, 0);
        int l = x.term(zero, 0, 0, 0);
        due.is(false, () -> x.equal(k, l));
        due.is(true, () -> x.equal(a, k));
        due.is(false, () -> x.equal(a, l));
        int b = x.unknown();
        int fk = x.term(2, b, k, 0);
        int fl = x.term(2, k, l, 0);
        due.is(false, () -> x.equal(fk, fl));
        due.is(-1, () -> x.top(b));
        int fb = x.term(2, a, b, 0);
        due.is(true, () -> x.equal(fb, fl));
        due.is(zero, () -> x.top(b));
        due.is(2, () -> x.count(3));
        int g = x.term(1, k, 0, 0);
        due.is(false, () -> x.equal(g, fl));
    }

    private static void refusedEquationChangesNothing() {
        due.about("promise 5, a refused one");
        TermNet x = Nets.withSigns();
        int a = x.unknown();
        int b = x.unknown();
        int c = x.unknown();
        int k = x.term(0, 0, 0, 0);
        int gk = x.term(1, k, 0, 0);
        int left = x.term(3, b, b, gk);
        int right = x.term(3, c, k, c);
        due.is(true, () -> x.equal(a, k));
        due.is(false, () -> x.equal(left, right));
        due.is(-1, () -> x.top(b));
        due.is(-1, () -> x.top(c));
        due.is(false, () -> x.same(b, c));
        due.is(false, () -> x.same(left, right));
        due.is(1, () -> x.count(3));
        due.is(6, () -> x.count(4));
        due.is(4, () -> x.count(5));
        due.is(true, () -> x.equal(x.term(3, a, b, c), x.term(3, k, k, k)));
        due.is(2, () -> x.count(3));
        due.is(a, () -> x.least(k));
        due.is(a, () -> x.least(c));
    }

    private static void noTermBelowItself() {
        due.about("promise 5, finite trees");
        TermNet x = Nets.withSigns();
        int a = x.unknown();
        int b = x.unknown();
        int c = x.unknown();
        int ga = x.term(1, a, 0, 0);
        int gb = x.term(1, b, 0, 0);
        int gc = x.term(1, c, 0, 0);
        due.is(false, () -> x.equal(a, ga));
        due.is(true, () -> x.equal(a, gb));
        due.is(true, () -> x.equal(b, gc));
        due.is(false, () -> x.equal(c, a));
        due.is(false, () -> x.equal(ga, c));
        due.is(false, () -> x.equal(c, gb));
        due.is(false, () -> x.equal(gb, ga));
        due.is(2, () -> x.count(3));
        due.is(true, () -> x.equal(c, x.term(0, 0, 0, 0)));
        due.is(3, () -> x.depth(a));
        int pair = x.term(2, a, b, 0);
        int swapped = x.term(2, b, a, 0);
        due.is(false, () -> x.equal(pair, swapped));
    }

    private static void sameTerms() {
        due.about("promise 6");
        TermNet x = Nets.withSigns();
        int a = x.unknown();
        int b = x.unknown();
        int k = x.term(0, 0, 0, 0);
        due.is(true, () -> x.same(a, a));
        due.is(false, () -> x.same(a, b));
        due.is(false, () -> x.same(a, k));
        due.is(true, () -> x.same(k, x.term(0, 0, 0, 0)));
        int fab = x.term(2, a, b, 0);
        int fba = x.term(2, b, a, 0);
        due.is(false, () -> x.same(fab, fba));
        x.equal(b, a);
        due.is(true, () -> x.same(fab, fba));
        due.is(true, () -> x.same(b, a));
        due.is(true, () -> x.same(fba, x.term(2, a, a, 0)));
        int other = x.sign(2);
        due.is(false, () -> x.same(fab, x.term(other, a, b, 0)));
        for (int none : NO_TERMS) {
            due.bad(() -> x.same(none, a));
            due.bad(() -> x.same(a, none));
        }
        due.bad(() -> x.same(a, x.count(1)));
    }

    private static void sameByPartsOfEarlierTerms() {
        due.about("promise 6, parts that become SAME later");
        TermNet x = Nets.withSigns();
        int a = x.unknown();
        int b = x.unknown();
        int c = x.unknown();
        int u = x.term(3, a, c, b);
        int v = x.term(3, b, c, a);
        int w = x.term(3, a, b, c);
        int gu = x.term(1, u, 0, 0);
        int gv = x.term(1, v, 0, 0);
        int ggu = x.term(1, gu, 0, 0);
        int ggv = x.term(1, gv, 0, 0);
        due.is(9 + 1, () -> x.count(4));
        due.is(true, () -> x.equal(a, b));
        due.is(true, () -> x.same(u, v));
        due.is(true, () -> x.same(ggu, ggv));
        due.is(false, () -> x.same(u, w));
        due.is(false, () -> x.same(gu, ggv));
        due.is(gu, () -> x.least(gv));
        due.is(6, () -> x.count(4));
        due.is(4, () -> x.count(5));
        due.is(gu, () -> x.part(ggv, 0));
    }

    /** A group may have been used as a part before it is found to be SAME as a lesser one. */
    private static void sameByPartsThatChangeLeast() {
        due.about("promise 6, a lesser TERM comes up later");
        TermNet x = Nets.withSigns();
        int e = x.unknown();
        int a = x.unknown();
        int b = x.unknown();
        int low = x.term(1, a, 0, 0);
        int high = x.term(1, b, 0, 0);
        int overHigh = x.term(1, high, 0, 0);
        int overLow = x.term(1, low, 0, 0);
        int topHigh = x.term(2, overHigh, e, 0);
        int topLow = x.term(2, overLow, e, 0);
        due.is(true, () -> x.equal(e, overHigh));
        due.is(false, () -> x.same(e, overLow));
        due.is(true, () -> x.equal(b, a));
        due.is(low, () -> x.least(high));
        due.is(e, () -> x.least(overLow));
        due.is(true, () -> x.same(topHigh, topLow));
        due.is(4, () -> x.count(4));
    }

    private static void tops() {
        due.about("promise 7");
        TermNet x = Nets.withSigns();
        int a = x.unknown();
        int b = x.unknown();
        int ga = x.term(1, a, 0, 0);
        int k = x.term(0, 0, 0, 0);
        due.is(-1, () -> x.top(a));
        due.is(1, () -> x.top(ga));
        due.is(0, () -> x.top(k));
        x.equal(a, b);
        due.is(-1, () -> x.top(b));
        x.equal(b, k);
        due.is(0, () -> x.top(a));
        due.is(0, () -> x.top(b));
        for (int none : NO_TERMS) {
            due.bad(() -> x.top(none));
        }
        due.bad(() -> x.top(k + 1));
    }

    private static void partsOfKnownTerms() {
        due.about("promise 8");
        TermNet x = Nets.withSigns();
        int a = x.unknown();
        int b = x.unknown();
        int c = x.unknown();
        int k = x.term(0, 0, 0, 0);
        int t = x.term(3, c, b, k);
        due.is(c, () -> x.part(t, 0));
        due.is(b, () -> x.part(t, 1));
        due.is(k, () -> x.part(t, 2));
        due.missing(() -> x.part(t, 3));
        due.missing(() -> x.part(t, -1));
        due.missing(() -> x.part(t, Integer.MAX_VALUE));
        due.missing(() -> x.part(t, Integer.MIN_VALUE));
        due.missing(() -> x.part(k, 0));
        due.missing(() -> x.part(a, 0));
        int d = x.unknown();
        x.equal(d, t);
        due.is(b, () -> x.part(d, 1));
        x.equal(c, a);
        x.equal(k, b);
        due.is(a, () -> x.part(d, 0));
        due.is(b, () -> x.part(t, 2));
        for (int none : NO_TERMS) {
            due.bad(() -> x.part(none, 0));
            due.bad(() -> x.part(none, 9));
        }
        due.bad(() -> x.part(d + 1, 0));
    }

    private static void leastTerms() {
        due.about("promise 9");
        TermNet x = Nets.withSigns();
        for (int n = 0; n < 6; n++) {
            x.unknown();
        }
        due.is(5, () -> x.least(5));
        x.equal(5, 3);
        due.is(3, () -> x.least(5));
        x.equal(4, 2);
        x.equal(5, 4);
        due.is(2, () -> x.least(3));
        due.is(2, () -> x.least(5));
        due.is(2, () -> x.least(2));
        due.is(0, () -> x.least(0));
        x.equal(x.term(0, 0, 0, 0), 5);
        due.is(2, () -> x.least(6));
        for (int none : NO_TERMS) {
            due.bad(() -> x.least(none));
        }
        due.bad(() -> x.least(7));
    }

    private static void sizes() {
        due.about("promise 10");
        TermNet x = Nets.withSigns();
        int a = x.unknown();
        int b = x.unknown();
        int aba = x.term(3, a, b, a);
        due.is(1, () -> x.size(a));
        due.is(4, () -> x.size(aba));
        x.equal(b, x.term(1, a, 0, 0));
        due.is(5, () -> x.size(aba));
        x.equal(a, x.term(0, 0, 0, 0));
        due.is(5, () -> x.size(aba));
        due.is(2, () -> x.size(b));
        sizesUpToTheMost(2, new long[] {500000000L, 999999999L, 1000000000L});
        sizesUpToTheMost(3, new long[] {333333333L, 333333333L, 333333333L});
        sizesUpToTheMost(3, new long[] {333333333L, 333333333L, 333333332L});
        sizesUpToTheMost(3, new long[] {1000000000L, 1000000000L, 1000000000L});
        for (int none : NO_TERMS) {
            due.bad(() -> x.size(none));
        }
        due.bad(() -> x.size(x.count(1)));
    }

    /** One term over parts of these sizes, each made of doublings and steps of one. */
    private static void sizesUpToTheMost(int n, long[] wanted) {
        TermNet x = Nets.withSigns();
        int[] made = new int[3];
        long sum = 1;
        for (int k = 0; k < n; k++) {
            int t = Nets.treeOfSize(x, wanted[k]);
            made[k] = t;
            long size = wanted[k];
            due.is(Math.min(size, 1000000000L), () -> x.size(t));
            sum += wanted[k];
        }
        long all = sum;
        int top = x.term(n, made[0], made[1], made[2]);
        due.is(Math.min(all, 1000000000L), () -> x.size(top));
        int over = x.term(3, top, top, top);
        due.is(Math.min(3 * Math.min(all, 1000000000L) + 1, 1000000000L), () -> x.size(over));
    }

    private static void depths() {
        due.about("promise 11");
        TermNet x = Nets.withSigns();
        int a = x.unknown();
        int b = x.unknown();
        int k = x.term(0, 0, 0, 0);
        int gb = x.term(1, b, 0, 0);
        int t = x.term(3, gb, a, k);
        due.is(1, () -> x.depth(a));
        due.is(1, () -> x.depth(k));
        due.is(2, () -> x.depth(gb));
        due.is(3, () -> x.depth(t));
        int ggk = x.term(1, x.term(1, k, 0, 0), 0, 0);
        x.equal(a, ggk);
        due.is(4, () -> x.depth(t));
        x.equal(b, ggk);
        due.is(5, () -> x.depth(t));
        due.is(3, () -> x.depth(a));
        for (int none : NO_TERMS) {
            due.bad(() -> x.depth(none));
        }
        due.bad(() -> x.depth(x.count(1)));
    }

    private static void insides() {
        due.about("promise 12");
        TermNet x = Nets.withSigns();
        int a = x.unknown();
        int b = x.unknown();
        int c = x.unknown();
        int ga = x.term(1, a, 0, 0);
        int t = x.term(2, c, ga, 0);
        due.is(true, () -> x.inside(a, a));
        due.is(true, () -> x.inside(a, t));
        due.is(true, () -> x.inside(c, t));
        due.is(false, () -> x.inside(b, t));
        due.is(false, () -> x.inside(ga, t));
        due.is(false, () -> x.inside(t, t));
        due.is(false, () -> x.inside(c, ga));
        x.equal(a, b);
        due.is(true, () -> x.inside(b, t));
        due.is(true, () -> x.inside(b, a));
        x.equal(a, x.term(0, 0, 0, 0));
        due.is(false, () -> x.inside(b, t));
        due.is(false, () -> x.inside(a, a));
        for (int none : NO_TERMS) {
            due.bad(() -> x.inside(none, a));
            due.bad(() -> x.inside(a, none));
            due.bad(() -> x.inside(ga, none));
        }
        due.bad(() -> x.inside(a, x.count(1)));
    }

    private static void unknownsInTrees() {
        due.about("promise 13");
        TermNet x = Nets.withSigns();
        int a = x.unknown();
        int b = x.unknown();
        int c = x.unknown();
        int k = x.term(0, 0, 0, 0);
        int t = x.term(3, a, b, a);
        int u = x.term(3, t, c, k);
        due.is(1, () -> x.unknowns(a));
        due.is(0, () -> x.unknowns(k));
        due.is(2, () -> x.unknowns(t));
        due.is(3, () -> x.unknowns(u));
        x.equal(a, c);
        due.is(2, () -> x.unknowns(u));
        x.equal(b, k);
        due.is(1, () -> x.unknowns(u));
        due.is(0, () -> x.unknowns(b));
        x.equal(c, x.term(2, x.unknown(), x.unknown(), 0));
        due.is(2, () -> x.unknowns(u));
        for (int none : NO_TERMS) {
            due.bad(() -> x.unknowns(none));
        }
        due.bad(() -> x.unknowns(x.count(1)));
    }

    private static void marks() {
        due.about("promise 14");
        TermNet x = new TermNet();
        for (int n = 1; n <= MAX_POINTS; n++) {
            due.is(n, () -> x.mark());
        }
        due.full(() -> x.mark());
        due.is(MAX_POINTS, () -> x.count(2));
        due.is(MAX_POINTS - 1, () -> x.back());
        due.is(MAX_POINTS, () -> x.mark());
        due.full(() -> x.mark());
    }

    private static void backs() {
        due.about("promise 15");
        TermNet x = new TermNet();
        due.missing(() -> x.back());
        x.unknown();
        due.missing(() -> x.back());
        due.is(1, () -> x.count(1));
        due.is(1, () -> x.mark());
        due.is(2, () -> x.mark());
        due.is(1, () -> x.back());
        due.is(0, () -> x.back());
        due.missing(() -> x.back());
        due.is(0, () -> x.count(2));
        due.is(1, () -> x.count(1));
    }

    private static void backUndoesTermsAndEquations() {
        due.about("promise 15, what is undone");
        TermNet x = Nets.withSigns();
        int a = x.unknown();
        int b = x.unknown();
        int ga = x.term(1, a, 0, 0);
        int gb = x.term(1, b, 0, 0);
        x.mark();
        due.is(true, () -> x.equal(ga, gb));
        int k = x.term(0, 0, 0, 0);
        due.is(true, () -> x.equal(b, k));
        due.is(4, () -> x.sign(2));
        due.is(0, () -> x.top(a));
        due.is(2, () -> x.count(3));
        due.is(0, () -> x.back());
        due.is(5, () -> x.count(0));
        due.is(4, () -> x.count(1));
        due.is(0, () -> x.count(3));
        due.is(4, () -> x.count(4));
        due.is(2, () -> x.count(5));
        due.is(-1, () -> x.top(a));
        due.is(false, () -> x.same(ga, gb));
        due.is(gb, () -> x.least(gb));
        due.bad(() -> x.top(k));
        due.is(k, () -> x.term(4, ga, gb, 0));
        due.is(4, () -> x.top(k));
        due.is(true, () -> x.equal(a, gb));
        due.is(false, () -> x.equal(b, ga));
        due.is(3, () -> x.depth(ga));
    }

    private static void pointsInPoints() {
        due.about("promise 15, points in points");
        TermNet x = Nets.withSigns();
        for (int n = 0; n < 6; n++) {
            x.unknown();
        }
        x.equal(0, 5);
        x.mark();
        x.equal(1, 4);
        x.mark();
        x.equal(4, 5);
        x.equal(2, x.term(0, 0, 0, 0));
        x.mark();
        x.equal(1, 2);
        due.is(0, () -> x.top(5));
        due.is(5, () -> x.count(3));
        due.is(2, () -> x.back());
        due.is(-1, () -> x.top(5));
        due.is(0, () -> x.least(4));
        due.is(0, () -> x.top(2));
        due.is(1, () -> x.back());
        due.is(1, () -> x.least(4));
        due.is(-1, () -> x.top(2));
        due.is(2, () -> x.count(3));
        due.is(0, () -> x.back());
        due.is(4, () -> x.least(4));
        due.is(0, () -> x.least(5));
        due.is(1, () -> x.count(3));
        due.is(5, () -> x.count(4));
    }

    private static void counts() {
        due.about("promise 16");
        TermNet x = Nets.withSigns();
        int a = x.unknown();
        int b = x.unknown();
        x.mark();
        int ga = x.term(1, a, 0, 0);
        int gb = x.term(1, b, 0, 0);
        x.term(0, 0, 0, 0);
        due.is(4, () -> x.count(0));
        due.is(5, () -> x.count(1));
        due.is(1, () -> x.count(2));
        due.is(0, () -> x.count(3));
        due.is(5, () -> x.count(4));
        due.is(3, () -> x.count(5));
        x.equal(ga, gb);
        x.equal(ga, a);
        due.is(1, () -> x.count(3));
        due.is(3, () -> x.count(4));
        due.is(2, () -> x.count(5));
        x.term(1, b, 0, 0);
        due.is(6, () -> x.count(1));
        due.is(3, () -> x.count(4));
        due.is(-1, () -> x.count(-1));
        due.is(-1, () -> x.count(6));
        due.is(-1, () -> x.count(Integer.MIN_VALUE));
        due.is(-1, () -> x.count(Integer.MAX_VALUE));
    }

    private static void badBeforeFull() {
        due.about("bad before full");
        TermNet x = Nets.withSigns();
        for (int n = 0; n < MAX_TERMS; n++) {
            x.unknown();
        }
        due.bad(() -> x.term(4, 0, 0, 0));
        due.bad(() -> x.term(1, MAX_TERMS, 0, 0));
        due.full(() -> x.term(1, MAX_TERMS - 1, 0, 0));
        due.full(() -> x.unknown());
    }

    private static void refusedCallsChangeNothing() {
        due.about("refused calls");
        TermNet x = Nets.withSigns();
        int a = x.unknown();
        int t = x.term(1, a, 0, 0);
        due.bad(() -> x.term(1, 2, 0, 0));
        due.bad(() -> x.sign(4));
        due.bad(() -> x.equal(a, 2));
        due.missing(() -> x.part(a, 0));
        due.missing(() -> x.back());
        due.is(false, () -> x.equal(a, t));
        due.is("4 2 0 0 2 1", () -> x.count(0) + " " + x.count(1) + " " + x.count(2) + " "
                + x.count(3) + " " + x.count(4) + " " + x.count(5));
        due.is(2, () -> x.unknown());
    }
}
