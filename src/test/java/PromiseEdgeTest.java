/** The boundaries that the document's promises name, a test for each, promise by promise. */
public final class PromiseEdgeTest {
    private static final int MAX_SIGNS = Nets.MAX_SIGNS;
    private static final int MAX_TERMS = Nets.MAX_TERMS;
    private static final int MAX_POINTS = Nets.MAX_POINTS;
    private static final int MAX_SIZE = Nets.MAX_SIZE;
    private static final Due due = new Due("PromiseEdgeTest");

    public static void main(String[] args) {
        noSignsNoTerms();
        signHasFromNoughtToThreeParts();
        signAnswersItsNumber();
        unknownAnswersTheTermsNumber();
        unknownInAFullNet();
        termAnswersItsNumber();
        partsThatItHasNotMayBeAnyNumber();
        partsThatItHasMayNot();
        termWhoseTwinIsThere();
        equationOfATermWithItself();
        equationThatHoldsAlready();
        equationThatCannotHold();
        equationsOfBadTerms();
        sameAsItself();
        sameInAFullNet();
        topOfKnownAndOthers();
        topOfFirstAndLastSign();
        partIsTheLeastThatIsSame();
        partKFromNought();
        partOfOneThatIsNotKnown();
        partForAnyOtherK();
        leastOfOneAlone();
        leastOfAWholeNet();
        leastAfterBack();
        sizeOfOneAlone();
        sizeAsFarAsKnown();
        sizeJustBelowTheMost();
        sizeOfTheMost();
        sizeBeyondTheMost();
        sizeBeyondAnyNumber();
        depthOfItAlone();
        depthIsOfTheDeepestPart();
        depthOfTheDeepest();
        insideItself();
        insideOfKnown();
        insideOfSameUnknown();
        insideAfterTheUnknownIsKnown();
        unknownsOfNone();
        unknownsThatAreSameCountOnce();
        unknownsOfTheWidest();
        markAnswersHowManyThereAre();
        markWhenThereAreTwenty();
        backAnswersHowManyAreLeft();
        backWithoutPoints();
        backInAFullNet();
        countsOfNothing();
        countsAtTheirMost();
        countOfEquations();
        countOfGroups();
        countOfAnythingElse();
        due.end();
    }

    private static void noSignsNoTerms() {
        due.about("promise 1: No SIGNS, no TERMS");
        TermNet x = new TermNet();
        due.is("counts 0 0 0 0 0 0", () -> Look.atAll(x));
        due.bad(() -> x.term(0, 0, 0, 0));
        due.bad(() -> x.same(0, 0));
        due.bad(() -> x.equal(0, 0));
        due.bad(() -> x.least(0));
        due.missing(() -> x.back());
        due.is("counts 0 0 0 0 0 0", () -> Look.atAll(x));
    }

    private static void signHasFromNoughtToThreeParts() {
        due.about("promise 2: n parts (0 .. 3)");
        for (int n : new int[] {Integer.MIN_VALUE, -1, 4, Integer.MAX_VALUE}) {
            TermNet x = new TermNet();
            due.bad(() -> x.sign(n));
            due.is(0, () -> x.count(0));
        }
        for (int n = 0; n <= 3; n++) {
            TermNet x = new TermNet();
            int parts = n;
            x.unknown();
            due.is(0, () -> x.sign(parts));
            due.is(1, () -> x.term(0, 0, 0, 0));
            due.is(1 + parts, () -> x.size(1));
            due.missing(() -> x.part(1, parts));
        }
    }

    private static void signAnswersItsNumber() {
        due.about("promise 2: Answers its number");
        TermNet x = new TermNet();
        for (int s = 0; s < MAX_SIGNS; s++) {
            int number = s;
            due.bad(() -> x.sign(4));
            due.is(number, () -> x.sign(0));
            due.is(number, () -> x.term(number, 0, 0, 0));
            due.is(number, () -> x.top(number));
        }
        due.full(() -> x.sign(0));
        due.bad(() -> x.sign(4));
    }

    private static void unknownAnswersTheTermsNumber() {
        due.about("promise 3: Answers the TERM's number");
        TermNet x = new TermNet();
        for (int t = 0; t < MAX_TERMS; t++) {
            int number = t;
            due.is(number, () -> x.unknown());
        }
        due.is(MAX_TERMS, () -> x.count(4));
        due.is(-1, () -> x.top(0));
        due.is(-1, () -> x.top(MAX_TERMS - 1));
        due.is(false, () -> x.same(MAX_TERMS - 2, MAX_TERMS - 1));
    }

    private static void unknownInAFullNet() {
        due.about("promise 3: too many");
        TermNet x = Nets.withUnknowns(MAX_TERMS - 1);
        x.mark();
        due.is(MAX_TERMS - 1, () -> x.unknown());
        due.full(() -> x.unknown());
        due.full(() -> x.unknown());
        due.is(0, () -> x.back());
        due.is(MAX_TERMS - 1, () -> x.unknown());
        due.full(() -> x.unknown());
    }

    private static void termAnswersItsNumber() {
        due.about("promise 4: Answers its number, and is full with 400");
        TermNet x = Nets.withUnknowns(MAX_TERMS - 4);
        for (int n = 0; n <= 3; n++) {
            int s = n;
            due.is(MAX_TERMS - 4 + s, () -> x.term(s, 0, 1, 2));
        }
        for (int n = 0; n <= 3; n++) {
            int s = n;
            due.full(() -> x.term(s, 0, 1, 2));
            due.is(s, () -> x.top(MAX_TERMS - 4 + s));
        }
    }

    private static void partsThatItHasNotMayBeAnyNumber() {
        due.about("promise 4: those that it hasn't may be any number");
        TermNet x = Nets.withUnknowns(3);
        int[] any = {-1, 3, MAX_TERMS, Integer.MIN_VALUE, Integer.MAX_VALUE};
        for (int i = 0; i < any.length; i++) {
            int n = any[i];
            int t = 3 + 3 * i;
            due.is(t, () -> x.term(0, n, n, n));
            due.is(t + 1, () -> x.term(1, 0, n, n));
            due.is(t + 2, () -> x.term(2, 0, 1, n));
            due.is(3, () -> x.least(t));
            due.is(4, () -> x.least(t + 1));
            due.is(5, () -> x.least(t + 2));
        }
        due.is(6, () -> x.count(4));
        due.is(true, () -> x.equal(5, 8));
        due.is(6, () -> x.count(4));
        due.is(3, () -> x.size(5));
        due.is(2, () -> x.unknowns(5));
        due.is(false, () -> x.inside(2, 5));
    }

    private static void partsThatItHasMayNot() {
        due.about("promise 4: those that it has are TERMS");
        TermNet x = Nets.withUnknowns(3);
        for (int none : new int[] {-1, 3, MAX_TERMS, Integer.MIN_VALUE, Integer.MAX_VALUE}) {
            due.bad(() -> x.term(1, none, 0, 0));
            due.bad(() -> x.term(2, none, 0, 0));
            due.bad(() -> x.term(2, 0, none, 0));
            due.bad(() -> x.term(3, none, 0, 0));
            due.bad(() -> x.term(3, 0, none, 0));
            due.bad(() -> x.term(3, 0, 0, none));
        }
        due.is(3, () -> x.count(1));
        due.is(3, () -> x.term(3, 2, 2, 2));
    }

    private static void termWhoseTwinIsThere() {
        due.about("promise 4: A TERM more, also when one like it is there");
        TermNet x = Nets.withUnknowns(1);
        due.is(1, () -> x.term(1, 0, 0, 0));
        due.is(2, () -> x.term(1, 0, 0, 0));
        due.is(3, () -> x.count(1));
        due.is(2, () -> x.count(4));
        due.is(1, () -> x.least(2));
        due.is(3, () -> x.term(1, 2, 0, 0));
        due.is(1, () -> x.part(3, 0));
    }

    private static void equationOfATermWithItself() {
        due.about("promise 5: a TERM with itself");
        TermNet x = Nets.withUnknowns(1);
        x.term(1, 0, 0, 0);
        due.is(true, () -> x.equal(0, 0));
        due.is(true, () -> x.equal(1, 1));
        due.is(-1, () -> x.top(0));
        due.is(2, () -> x.count(4));
        due.is(2, () -> x.count(3));
    }

    private static void equationThatHoldsAlready() {
        due.about("promise 5: one that holds already");
        TermNet x = Nets.withUnknowns(2);
        int t = x.term(1, 0, 0, 0);
        int u = x.term(1, 1, 0, 0);
        due.is(true, () -> x.equal(t, u));
        due.is(true, () -> x.equal(u, t));
        due.is(true, () -> x.equal(1, 0));
        due.is(2, () -> x.count(4));
        due.is(3, () -> x.count(3));
    }

    private static void equationThatCannotHold() {
        due.about("promise 5: whether it can hold");
        TermNet x = Nets.withUnknowns(2);
        int otherNought = x.sign(0);
        int k = x.term(0, 0, 0, 0);
        int l = x.term(otherNought, 0, 0, 0);
        int g0 = x.term(1, 0, 0, 0);
        int gk = x.term(1, k, 0, 0);
        int gl = x.term(1, l, 0, 0);
        due.is(false, () -> x.equal(k, l));
        due.is(false, () -> x.equal(k, g0));
        due.is(false, () -> x.equal(gk, gl));
        due.is(false, () -> x.equal(g0, 0));
        due.is(0, () -> x.count(3));
        due.is(true, () -> x.equal(g0, gl));
        due.is(false, () -> x.equal(gk, g0));
        due.is(1, () -> x.count(3));
        due.is(otherNought, () -> x.top(0));
    }

    private static void equationsOfBadTerms() {
        due.about("promise 5: no such TERM, also where one alone would do");
        TermNet x = Nets.withUnknowns(1);
        for (int none : Nets.NO_TERMS) {
            due.bad(() -> x.equal(none, none));
            due.bad(() -> x.equal(0, none));
            due.bad(() -> x.equal(none, 0));
        }
        due.bad(() -> x.equal(0, 1));
        due.is(0, () -> x.count(3));
    }

    private static void sameAsItself() {
        due.about("promise 6: a TERM and itself");
        TermNet x = Nets.withUnknowns(1);
        due.is(true, () -> x.same(0, 0));
        due.bad(() -> x.same(1, 1));
        due.bad(() -> x.same(-1, -1));
        due.bad(() -> x.same(0, 1));
        due.bad(() -> x.same(1, 0));
    }

    private static void sameInAFullNet() {
        due.about("promise 6: the first and the last of 400");
        TermNet x = Nets.withUnknowns(MAX_TERMS);
        due.is(false, () -> x.same(0, MAX_TERMS - 1));
        due.is(true, () -> x.equal(MAX_TERMS - 1, 0));
        due.is(true, () -> x.same(0, MAX_TERMS - 1));
        due.is(true, () -> x.same(MAX_TERMS - 1, 0));
        due.is(false, () -> x.same(1, MAX_TERMS - 1));
        due.bad(() -> x.same(0, MAX_TERMS));
    }

    private static void topOfKnownAndOthers() {
        due.about("promise 7: The SIGN of a TERM that's KNOWN; -1 of others");
        TermNet x = Nets.withUnknowns(2);
        x.mark();
        int k = x.term(0, 0, 0, 0);
        due.is(-1, () -> x.top(0));
        x.equal(1, 0);
        due.is(-1, () -> x.top(0));
        x.equal(k, 1);
        due.is(0, () -> x.top(0));
        x.back();
        due.is(-1, () -> x.top(0));
        due.bad(() -> x.top(k));
        due.bad(() -> x.top(-1));
    }

    private static void topOfFirstAndLastSign() {
        due.about("promise 7: the first and the last SIGN");
        TermNet x = new TermNet();
        for (int s = 0; s < MAX_SIGNS; s++) {
            x.sign(0);
        }
        x.unknown();
        x.unknown();
        x.equal(0, x.term(0, 0, 0, 0));
        x.equal(1, x.term(MAX_SIGNS - 1, 0, 0, 0));
        due.is(0, () -> x.top(0));
        due.is(MAX_SIGNS - 1, () -> x.top(1));
    }

    private static void partIsTheLeastThatIsSame() {
        due.about("promise 8: The least TERM that's SAME as PART k");
        TermNet x = Nets.withUnknowns(4);
        int t = x.term(3, 3, 2, 3);
        int u = x.unknown();
        x.equal(u, t);
        due.is(3, () -> x.part(u, 0));
        x.equal(3, 1);
        due.is(1, () -> x.part(u, 0));
        due.is(2, () -> x.part(t, 1));
        due.is(1, () -> x.part(t, 2));
        x.equal(x.term(0, 0, 0, 0), 2);
        x.equal(0, 2);
        due.is(0, () -> x.part(u, 1));
    }

    private static void partKFromNought() {
        due.about("promise 8: PART k (from 0)");
        TermNet x = Nets.withUnknowns(3);
        int[] made = {x.term(1, 2, 0, 0), x.term(2, 2, 1, 0), x.term(3, 2, 1, 0)};
        for (int parts = 1; parts <= 3; parts++) {
            int t = made[parts - 1];
            for (int k = 0; k < parts; k++) {
                int part = k;
                due.is(2 - part, () -> x.part(t, part));
            }
            int behind = parts;
            due.missing(() -> x.part(t, behind));
            due.missing(() -> x.part(t, -1));
        }
    }

    private static void partOfOneThatIsNotKnown() {
        due.about("promise 8: Not there: one that's not KNOWN, or a SIGN without parts");
        TermNet x = Nets.withUnknowns(2);
        int k = x.term(0, 0, 1, 0);
        x.equal(0, 1);
        for (int n = 0; n < 3; n++) {
            int part = n;
            due.missing(() -> x.part(0, part));
            due.missing(() -> x.part(1, part));
            due.missing(() -> x.part(k, part));
        }
        x.equal(0, k);
        due.missing(() -> x.part(1, 0));
    }

    private static void partForAnyOtherK() {
        due.about("promise 8: so it is for any other k");
        TermNet x = Nets.withUnknowns(1);
        int t = x.term(3, 0, 0, 0);
        for (int k : new int[] {-1, 3, 4, MAX_TERMS, Integer.MIN_VALUE, Integer.MAX_VALUE}) {
            due.missing(() -> x.part(t, k));
            due.missing(() -> x.part(0, k));
            due.bad(() -> x.part(t + 1, k));
        }
    }

    private static void leastOfOneAlone() {
        due.about("promise 9: of one alone, itself");
        TermNet x = Nets.withUnknowns(2);
        int t = x.term(2, 0, 1, 0);
        due.is(0, () -> x.least(0));
        due.is(1, () -> x.least(1));
        due.is(t, () -> x.least(t));
        due.bad(() -> x.least(t + 1));
        due.bad(() -> x.least(-1));
    }

    private static void leastOfAWholeNet() {
        due.about("promise 9: of 400 TERMS that are all SAME");
        TermNet x = Nets.withSigns();
        x.unknown();
        for (int t = 1; t < MAX_TERMS; t++) {
            x.term(0, 0, 0, 0);
        }
        due.is(1, () -> x.least(MAX_TERMS - 1));
        due.is(true, () -> x.equal(MAX_TERMS - 1, 0));
        for (int t = MAX_TERMS - 1; t > 0; t -= 7) {
            int any = t;
            due.is(0, () -> x.least(any));
        }
        due.is(1, () -> x.count(4));
    }

    private static void leastAfterBack() {
        due.about("promise 9: a lesser one no more, after going back");
        TermNet x = Nets.withUnknowns(4);
        x.equal(3, 2);
        x.mark();
        x.equal(3, 1);
        x.mark();
        x.equal(2, 0);
        due.is(0, () -> x.least(3));
        x.back();
        due.is(1, () -> x.least(3));
        x.back();
        due.is(2, () -> x.least(3));
        due.is(1, () -> x.least(1));
    }

    private static void sizeOfOneAlone() {
        due.about("promise 10: one SIGN or UNKNOWN");
        TermNet x = Nets.withUnknowns(1);
        due.is(1, () -> x.size(0));
        due.is(1, () -> x.size(x.term(0, 0, 0, 0)));
        due.bad(() -> x.size(2));
        due.bad(() -> x.size(-1));
    }

    private static void sizeAsFarAsKnown() {
        due.about("promise 10: written out as a tree as far as it's KNOWN");
        TermNet x = Nets.withUnknowns(2);
        int t = x.term(3, 0, 0, 1);
        due.is(4, () -> x.size(t));
        x.mark();
        x.equal(0, x.term(2, 1, 1, 0));
        due.is(8, () -> x.size(t));
        due.is(3, () -> x.size(0));
        x.back();
        due.is(4, () -> x.size(t));
        due.is(1, () -> x.size(0));
    }

    private static void sizeJustBelowTheMost() {
        due.about("promise 10: 999999999 is told");
        TermNet x = Nets.withSigns();
        int t = Nets.treeOfSize(x, MAX_SIZE - 1);
        due.is(MAX_SIZE - 1, () -> x.size(t));
    }

    private static void sizeOfTheMost() {
        due.about("promise 10: 1000000000 is told");
        TermNet x = Nets.withSigns();
        int t = Nets.treeOfSize(x, MAX_SIZE);
        due.is(MAX_SIZE, () -> x.size(t));
        due.is(MAX_SIZE - 1, () -> x.size(x.part(t, 0)));
    }

    private static void sizeBeyondTheMost() {
        due.about("promise 10: at most 1000000000 is told");
        // Sums that an int, or an int without sign, would wrap: to less than nothing and to little.
        long[] sizes = {1000000001L, 2147483647L, 2147483648L, 3000000001L, 4294967295L,
            4294967296L, 4294967297L, 4294967300L, 9000000000L};
        for (long size : sizes) {
            TermNet x = Nets.withSigns();
            int t = Nets.treeOfSize(x, size);
            due.is(MAX_SIZE, () -> x.size(t));
            due.is(MAX_SIZE, () -> x.size(x.term(3, t, t, t)));
            due.is(MAX_SIZE, () -> x.size(x.term(1, t, 0, 0)));
        }
        TermNet three = Nets.withSigns();
        int third = Nets.treeOfSize(three, 333333333L);
        due.is(MAX_SIZE, () -> three.size(three.term(3, third, third, third)));
        due.is(666666667, () -> three.size(three.term(2, third, third, 0)));
    }

    private static void sizeBeyondAnyNumber() {
        due.about("promise 10: at most 1000000000 is told, of 3 to the 399th");
        TermNet x = Nets.withUnknowns(1);
        for (int t = 0; t < MAX_TERMS - 1; t++) {
            x.term(3, t, t, t);
        }
        // 3 + 9 + 27 ..: 18 levels have 581130733 of them, 19 have 1743392200.
        due.is(581130733, () -> x.size(18));
        due.is(MAX_SIZE, () -> x.size(19));
        due.is(MAX_SIZE, () -> x.size(20));
        due.is(MAX_SIZE, () -> x.size(40));
        due.is(MAX_SIZE, () -> x.size(41));
        due.is(MAX_SIZE, () -> x.size(MAX_TERMS - 1));
        due.is(MAX_TERMS, () -> x.depth(MAX_TERMS - 1));
        due.is(1, () -> x.unknowns(MAX_TERMS - 1));
    }

    private static void depthOfItAlone() {
        due.about("promise 11: 1: it alone");
        TermNet x = Nets.withUnknowns(2);
        due.is(1, () -> x.depth(0));
        due.is(1, () -> x.depth(x.term(0, 1, 1, 1)));
        x.equal(0, 1);
        due.is(1, () -> x.depth(0));
        x.equal(0, 2);
        due.is(1, () -> x.depth(1));
        due.bad(() -> x.depth(3));
        due.bad(() -> x.depth(-1));
    }

    private static void depthIsOfTheDeepestPart() {
        due.about("promise 11: one below the other in that tree at most");
        for (int place = 0; place < 3; place++) {
            TermNet x = Nets.withUnknowns(2);
            int deep = Nets.tower(x, 0, 5);
            int[] below = {1, 1, 1};
            below[place] = deep;
            int t = x.term(3, below[0], below[1], below[2]);
            due.is(7, () -> x.depth(t));
            x.equal(1, x.term(1, deep, 0, 0));
            due.is(8, () -> x.depth(t));
        }
    }

    private static void depthOfTheDeepest() {
        due.about("promise 11: 400 below each other");
        TermNet x = Nets.withUnknowns(1);
        int top = Nets.tower(x, 0, MAX_TERMS - 1);
        due.is(MAX_TERMS, () -> x.depth(top));
        due.is(MAX_TERMS - 1, () -> x.depth(top - 1));
        due.is(2, () -> x.depth(1));
    }

    private static void insideItself() {
        due.about("promise 12: an UNKNOWN lies in its own tree");
        TermNet x = Nets.withUnknowns(2);
        due.is(true, () -> x.inside(0, 0));
        due.is(false, () -> x.inside(0, 1));
        due.is(false, () -> x.inside(1, 0));
        due.bad(() -> x.inside(0, 2));
        due.bad(() -> x.inside(2, 0));
        due.bad(() -> x.inside(2, 2));
    }

    private static void insideOfKnown() {
        due.about("promise 12: a KNOWN: false");
        TermNet x = Nets.withUnknowns(1);
        int k = x.term(0, 0, 0, 0);
        int gk = x.term(1, k, 0, 0);
        int g0 = x.term(1, 0, 0, 0);
        due.is(false, () -> x.inside(k, gk));
        due.is(false, () -> x.inside(k, k));
        due.is(false, () -> x.inside(g0, g0));
        due.is(true, () -> x.inside(0, g0));
        due.is(false, () -> x.inside(0, gk));
        due.bad(() -> x.inside(k, g0 + 1));
    }

    private static void insideOfSameUnknown() {
        due.about("promise 12: an UNKNOWN that a stands for");
        TermNet x = Nets.withUnknowns(3);
        int g2 = x.term(1, 2, 0, 0);
        due.is(false, () -> x.inside(0, g2));
        x.equal(0, 1);
        x.equal(1, 2);
        due.is(true, () -> x.inside(0, g2));
        due.is(true, () -> x.inside(1, 2));
        int top = Nets.tower(x, g2, MAX_TERMS - 4);
        due.is(true, () -> x.inside(0, top));
    }

    private static void insideAfterTheUnknownIsKnown() {
        due.about("promise 12: false as soon as a is KNOWN, until that is undone");
        TermNet x = Nets.withUnknowns(2);
        int g0 = x.term(1, 0, 0, 0);
        x.mark();
        x.equal(0, x.term(1, 1, 0, 0));
        due.is(false, () -> x.inside(0, g0));
        due.is(true, () -> x.inside(1, g0));
        x.back();
        due.is(true, () -> x.inside(0, g0));
        due.is(false, () -> x.inside(1, g0));
    }

    private static void unknownsOfNone() {
        due.about("promise 13: none, and one");
        TermNet x = Nets.withUnknowns(1);
        int k = x.term(0, 0, 0, 0);
        due.is(0, () -> x.unknowns(k));
        due.is(0, () -> x.unknowns(x.term(3, k, k, k)));
        due.is(1, () -> x.unknowns(0));
        due.is(true, () -> x.equal(0, k));
        due.is(0, () -> x.unknowns(0));
        due.bad(() -> x.unknowns(3));
        due.bad(() -> x.unknowns(-1));
    }

    private static void unknownsThatAreSameCountOnce() {
        due.about("promise 13: UNKNOWNS that aren't SAME");
        TermNet x = Nets.withUnknowns(3);
        int t = x.term(3, 0, 1, 2);
        int u = x.term(3, t, t, 0);
        due.is(3, () -> x.unknowns(u));
        x.equal(2, 0);
        due.is(2, () -> x.unknowns(u));
        x.equal(1, 2);
        due.is(1, () -> x.unknowns(u));
        due.is(1, () -> x.unknowns(t));
    }

    private static void unknownsOfTheWidest() {
        due.about("promise 13: as many as 400 TERMS can have below one");
        // Each SIGN with three parts makes three trees one: 133 of them stand over 267 UNKNOWNS.
        int wide = 267;
        TermNet x = Nets.withUnknowns(wide);
        int trees = wide;
        for (int below = 0; trees < MAX_TERMS; below += 3) {
            trees = x.term(3, below, below + 1, below + 2) + 1;
        }
        due.is(wide, () -> x.unknowns(MAX_TERMS - 1));
        due.is(MAX_TERMS, () -> x.size(MAX_TERMS - 1));
        x.equal(0, wide - 1);
        due.is(wide - 1, () -> x.unknowns(MAX_TERMS - 1));
    }

    private static void markAnswersHowManyThereAre() {
        due.about("promise 14: Answers how many there are");
        TermNet x = new TermNet();
        due.is(1, () -> x.mark());
        due.is(2, () -> x.mark());
        due.is(1, () -> x.back());
        due.is(2, () -> x.mark());
        due.is(3, () -> x.mark());
        due.is(3, () -> x.count(2));
    }

    private static void markWhenThereAreTwenty() {
        due.about("promise 14: too many");
        TermNet x = new TermNet();
        for (int n = 1; n < MAX_POINTS; n++) {
            x.mark();
        }
        x.unknown();
        due.is(MAX_POINTS, () -> x.mark());
        x.unknown();
        due.full(() -> x.mark());
        due.is(MAX_POINTS, () -> x.count(2));
        due.is(MAX_POINTS - 1, () -> x.back());
        due.is(1, () -> x.count(1));
        due.is(MAX_POINTS, () -> x.mark());
        due.full(() -> x.mark());
    }

    private static void backAnswersHowManyAreLeft() {
        due.about("promise 15: Answers how many are left");
        TermNet x = new TermNet();
        for (int n = 0; n < MAX_POINTS; n++) {
            x.mark();
        }
        for (int n = MAX_POINTS - 1; n >= 0; n--) {
            int left = n;
            due.is(left, () -> x.back());
            due.is(left, () -> x.count(2));
        }
    }

    private static void backWithoutPoints() {
        due.about("promise 15: None: missing");
        TermNet x = Nets.withUnknowns(2);
        x.equal(0, 1);
        due.missing(() -> x.back());
        due.is(1, () -> x.mark());
        due.is(0, () -> x.back());
        due.missing(() -> x.back());
        due.missing(() -> x.back());
        due.is("counts 4 2 0 1 1 0", () -> Look.at(x));
        due.is(1, () -> x.mark());
    }

    private static void backInAFullNet() {
        due.about("promise 15: BACK to nothing from 400 TERMS");
        TermNet x = Nets.withSigns();
        x.mark();
        int left = Nets.tower(x, x.unknown(), 199);
        int right = Nets.tower(x, x.unknown(), 199);
        due.is(true, () -> x.equal(left, right));
        due.is(200, () -> x.count(4));
        due.is(0, () -> x.back());
        due.is("counts 4 0 0 0 0 0", () -> Look.atAll(x));
        due.is(0, () -> x.term(0, 0, 0, 0));
        due.is(1, () -> x.unknown());
        due.is(false, () -> x.same(0, 1));
    }

    private static void countsOfNothing() {
        due.about("promise 16: nothing told, and one of each");
        TermNet x = new TermNet();
        due.is("counts 0 0 0 0 0 0", () -> Look.at(x));
        x.sign(0);
        due.is("counts 1 0 0 0 0 0", () -> Look.at(x));
        x.unknown();
        due.is("counts 1 1 0 0 1 0", () -> Look.at(x));
        x.mark();
        due.is("counts 1 1 1 0 1 0", () -> Look.at(x));
        x.term(0, 0, 0, 0);
        due.is("counts 1 2 1 0 2 1", () -> Look.at(x));
        x.equal(0, 1);
        due.is("counts 1 2 1 1 1 1", () -> Look.at(x));
        x.back();
        due.is("counts 1 1 0 0 1 0", () -> Look.at(x));
    }

    private static void countsAtTheirMost() {
        due.about("promise 16: as many as there can be");
        TermNet x = Nets.withSigns();
        for (int s = 4; s < MAX_SIGNS; s++) {
            x.sign(0);
        }
        for (int n = 0; n < MAX_POINTS; n++) {
            x.mark();
        }
        Nets.tower(x, x.term(0, 0, 0, 0), MAX_TERMS - 1);
        due.is("counts 40 400 20 0 400 400", () -> Look.at(x));
    }

    private static void countOfEquations() {
        due.about("promise 16: EQUATIONS that hold");
        TermNet x = Nets.withUnknowns(3);
        int g0 = x.term(1, 0, 0, 0);
        due.is(false, () -> x.equal(0, g0));
        due.is(0, () -> x.count(3));
        due.bad(() -> x.equal(0, 4));
        due.is(0, () -> x.count(3));
        due.is(true, () -> x.equal(0, 1));
        due.is(1, () -> x.count(3));
        x.mark();
        due.is(true, () -> x.equal(0, 1));
        due.is(true, () -> x.equal(2, g0));
        due.is(3, () -> x.count(3));
        due.is(false, () -> x.equal(2, 1));
        due.is(3, () -> x.count(3));
        x.back();
        due.is(1, () -> x.count(3));
    }

    private static void countOfGroups() {
        due.about("promise 16: groups of SAME TERMS, of these KNOWN ones");
        TermNet x = Nets.withUnknowns(2);
        int g0 = x.term(1, 0, 0, 0);
        int g1 = x.term(1, 1, 0, 0);
        int u = x.unknown();
        due.is("counts 4 5 0 0 5 2", () -> Look.at(x));
        x.equal(u, g0);
        due.is("counts 4 5 0 1 4 2", () -> Look.at(x));
        x.equal(0, 1);
        due.is("counts 4 5 0 2 2 1", () -> Look.at(x));
        x.equal(g1, u);
        due.is("counts 4 5 0 3 2 1", () -> Look.at(x));
        x.equal(1, x.term(0, 0, 0, 0));
        due.is("counts 4 6 0 4 2 2", () -> Look.at(x));
    }

    private static void countOfAnythingElse() {
        due.about("promise 16: else -1");
        TermNet x = Nets.withUnknowns(7);
        for (int what : new int[] {-1, 6, 7, Integer.MIN_VALUE, Integer.MAX_VALUE}) {
            due.is(-1, () -> x.count(what));
        }
        due.is(0, () -> x.count(5));
        due.is(4, () -> x.count(0));
    }
}
