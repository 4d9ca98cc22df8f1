import java.lang.reflect.Field;
import java.lang.reflect.Modifier;
import java.util.Set;
import java.util.TreeSet;

/**
 * The document's sections "What it is" and "Terms": a test for each sentence, or half of one, that
 * names a boundary. What a check is about is told in the sentence's own words.
 */
public final class TermsEdgeTest {
    private static final int MAX_SIGNS = Nets.MAX_SIGNS;
    private static final int MAX_TERMS = Nets.MAX_TERMS;
    private static final int MAX_POINTS = Nets.MAX_POINTS;
    private static final Due due = new Due("TermsEdgeTest");

    public static void main(String[] args) {
        lastCallAfterEquations();
        lastCallAfterMerges();
        lastCallAfterPoints();
        lastCallInAFullNet();
        holdsTogetherWithAllBefore();
        fortySigns();
        signsNumberedFromNought();
        noughtToThreeParts();
        fourHundredUnknowns();
        fourHundredTermsWithSigns();
        fourHundredTermsThatAreSame();
        termsNumberedFromNought();
        soManyTermsAsParts();
        partsMadeBefore();
        finiteTrees();
        finiteTreesThroughManyTerms();
        finiteTreesThroughParts();
        signOnTopAndPartsBelow();
        bothTermsHaveTheSameTree();
        holdsFromThenOn();
        elseNothingChanges();
        elseNothingChangesAfterManyMerges();
        otherSignsThanThoseTold();
        otherSignsThanTheOnlyOne();
        noSignWithoutPartsTold();
        sameInAllSolutions();
        sameInOneSolutionOnly();
        knownIfSameAsOneWithASign();
        twentyPoints();
        backToTheLatest();
        backUndoesTerms();
        backUndoesEquations();
        backUndoesWhatTermsMadeSame();
        backLeavesWhatCameBefore();
        signsStay();
        thePointIsGone();
        noSuchSign();
        noSuchTerm();
        noSuchTermAfterBack();
        noSuchNumber();
        tooMany();
        badBeforeFull();
        badBeforeMissing();
        badCallsChangeNothing();
        fullCallsChangeNothing();
        missingCallsChangeNothing();
        askingChangesNothing();
        memoryIsOwn();
        due.end();
    }

    private static void lastCallAfterEquations() {
        due.about("at most 512 calls: 510 equations, and the last call tells them");
        TermNet x = new TermNet();
        due.is(0, () -> x.unknown());
        for (int call = 2; call < Nets.MAX_CALLS; call++) {
            due.is(true, () -> x.equal(0, 0));
        }
        due.is(Nets.MAX_CALLS - 2, () -> x.count(3));
    }

    private static void lastCallAfterMerges() {
        due.about("at most 512 calls: 255 merges, and the last call tells the one group");
        TermNet x = new TermNet();
        for (int n = 0; n < 256; n++) {
            x.unknown();
        }
        for (int n = 1; n < 256; n++) {
            int t = n;
            due.is(true, () -> x.equal(t, t - 1));
        }
        due.is(1, () -> x.count(4));
    }

    private static void lastCallAfterPoints() {
        due.about("at most 512 calls: points set and gone back to, up to the last call");
        TermNet x = new TermNet();
        for (int n = 0; n < MAX_POINTS; n++) {
            x.mark();
        }
        for (int call = MAX_POINTS + 1; call < Nets.MAX_CALLS; call += 2) {
            due.is(MAX_POINTS - 1, () -> x.back());
            due.is(MAX_POINTS, () -> x.mark());
        }
    }

    private static void lastCallInAFullNet() {
        due.about("at most 512 calls: all rows full, and the last call is answered");
        TermNet x = new TermNet();
        for (int n = 0; n < MAX_SIGNS; n++) {
            x.sign(n % 4);
        }
        for (int n = 0; n < MAX_POINTS; n++) {
            x.mark();
        }
        x.unknown();
        Nets.tower(x, x.unknown(), MAX_TERMS - 2);
        for (int call = MAX_SIGNS + MAX_POINTS + MAX_TERMS + 1; call < Nets.MAX_CALLS; call++) {
            due.is(true, () -> x.equal(0, MAX_TERMS - 1));
        }
        due.is(MAX_TERMS - 1, () -> x.depth(0));
    }

    private static void holdsTogetherWithAllBefore() {
        due.about("each one either holds together with all before it, or is told that it cannot");
        TermNet x = Nets.withUnknowns(3);
        int k = x.term(0, 0, 0, 0);
        int gk = x.term(1, k, 0, 0);
        due.is(true, () -> x.equal(0, k));
        due.is(true, () -> x.equal(1, gk));
        due.is(true, () -> x.equal(2, 1));
        due.is(false, () -> x.equal(2, 0));
        TermNet y = Nets.withUnknowns(3);
        due.is(true, () -> y.equal(2, 0));
    }

    private static void fortySigns() {
        due.about("SIGNS, at most 40");
        for (int parts = 0; parts <= 3; parts++) {
            TermNet x = new TermNet();
            int n = parts;
            for (int s = 0; s < MAX_SIGNS; s++) {
                due.is(s, () -> x.sign(n));
            }
            due.full(() -> x.sign(n));
            due.full(() -> x.sign(3 - n));
            due.is(MAX_SIGNS, () -> x.count(0));
        }
    }

    private static void signsNumberedFromNought() {
        due.about("SIGNS, numbered from 0");
        TermNet x = new TermNet();
        due.bad(() -> x.term(0, 0, 0, 0));
        due.is(0, () -> x.sign(0));
        due.is(0, () -> x.term(0, 0, 0, 0));
        due.bad(() -> x.term(1, 0, 0, 0));
        due.is(1, () -> x.sign(0));
        due.is(1, () -> x.term(1, 0, 0, 0));
        due.is(0, () -> x.top(0));
        due.is(1, () -> x.top(1));
        due.is(false, () -> x.same(0, 1));
    }

    private static void noughtToThreeParts() {
        due.about("each with 0 to 3 parts");
        TermNet x = new TermNet();
        due.bad(() -> x.sign(-1));
        due.bad(() -> x.sign(4));
        due.is(0, () -> x.sign(0));
        due.is(1, () -> x.sign(3));
        due.is(0, () -> x.term(0, 0, 0, 0));
        due.missing(() -> x.part(0, 0));
        due.is(1, () -> x.term(1, 0, 0, 0));
        due.is(0, () -> x.part(1, 2));
        due.missing(() -> x.part(1, 3));
    }

    private static void fourHundredUnknowns() {
        due.about("TERMS, at most 400: UNKNOWNS");
        TermNet x = Nets.withUnknowns(MAX_TERMS - 1);
        due.is(MAX_TERMS - 1, () -> x.unknown());
        due.full(() -> x.unknown());
        due.full(() -> x.term(0, 0, 0, 0));
        due.full(() -> x.term(3, 0, 1, MAX_TERMS - 1));
        due.is(MAX_TERMS, () -> x.count(1));
        due.is(MAX_TERMS - 1, () -> x.least(MAX_TERMS - 1));
    }

    private static void fourHundredTermsWithSigns() {
        due.about("TERMS, at most 400: with SIGNS");
        TermNet x = Nets.withSigns();
        int ground = x.term(0, 0, 0, 0);
        Nets.tower(x, ground, MAX_TERMS - 2);
        due.is(MAX_TERMS - 1, () -> x.term(1, MAX_TERMS - 2, 0, 0));
        due.full(() -> x.term(1, MAX_TERMS - 1, 0, 0));
        due.full(() -> x.unknown());
        due.is(MAX_TERMS, () -> x.count(1));
        due.is(MAX_TERMS - 2, () -> x.part(MAX_TERMS - 1, 0));
    }

    private static void fourHundredTermsThatAreSame() {
        due.about("TERMS, at most 400: SAME ones count too");
        TermNet x = Nets.withSigns();
        for (int t = 0; t < MAX_TERMS; t++) {
            int number = t;
            due.is(number, () -> x.term(0, 0, 0, 0));
        }
        due.full(() -> x.term(0, 0, 0, 0));
        due.full(() -> x.unknown());
        due.is(MAX_TERMS, () -> x.count(1));
        due.is(1, () -> x.count(4));
        due.is(0, () -> x.least(MAX_TERMS - 1));
    }

    private static void termsNumberedFromNought() {
        due.about("TERMS, numbered from 0: an UNKNOWN, or a SIGN");
        TermNet x = Nets.withSigns();
        due.bad(() -> x.top(0));
        due.is(0, () -> x.unknown());
        due.is(-1, () -> x.top(0));
        due.bad(() -> x.top(1));
        due.is(1, () -> x.term(0, 0, 0, 0));
        due.is(0, () -> x.top(1));
        due.is(2, () -> x.unknown());
        due.is(3, () -> x.term(1, 2, 0, 0));
        due.bad(() -> x.top(4));
    }

    private static void soManyTermsAsParts() {
        due.about("a SIGN with so many TERMS as PARTS");
        TermNet x = Nets.withUnknowns(3);
        for (int parts = 0; parts <= 3; parts++) {
            int n = parts;
            due.is(3 + n, () -> x.term(n, 2, 1, 0));
            for (int k = 0; k < 3; k++) {
                int part = k;
                if (k < n) {
                    due.is(2 - part, () -> x.part(3 + n, part));
                } else {
                    due.missing(() -> x.part(3 + n, part));
                }
            }
            due.is(1 + n, () -> x.size(3 + n));
        }
    }

    private static void partsMadeBefore() {
        due.about("PARTS (made before it)");
        TermNet x = Nets.withSigns();
        due.bad(() -> x.term(1, 0, 0, 0));
        due.is(0, () -> x.unknown());
        due.bad(() -> x.term(1, 1, 0, 0));
        due.bad(() -> x.term(2, 0, 1, 0));
        due.bad(() -> x.term(3, 0, 0, 1));
        due.bad(() -> x.term(1, 2, 0, 0));
        due.is(1, () -> x.term(3, 0, 0, 0));
        due.is(2, () -> x.term(1, 1, 0, 0));
        due.bad(() -> x.term(1, 3, 0, 0));
    }

    private static void finiteTrees() {
        due.about("a finite tree for each TERM");
        for (int parts = 1; parts <= 3; parts++) {
            for (int place = 0; place < parts; place++) {
                TermNet x = Nets.withUnknowns(2);
                int[] below = {1, 1, 1};
                below[place] = 0;
                int t = x.term(parts, below[0], below[1], below[2]);
                due.is(false, () -> x.equal(0, t));
                due.is(false, () -> x.equal(t, 0));
                due.is(-1, () -> x.top(0));
                due.is(0, () -> x.count(3));
            }
        }
    }

    private static void finiteTreesThroughManyTerms() {
        due.about("a finite tree for each TERM: below itself through many TERMS");
        TermNet x = Nets.withUnknowns(1);
        int top = Nets.tower(x, 0, MAX_TERMS - 1);
        due.is(false, () -> x.equal(0, top));
        due.is(false, () -> x.equal(1, top));
        due.is(false, () -> x.equal(top - 1, top));
        due.is(true, () -> x.equal(top, top));
        due.is(MAX_TERMS, () -> x.depth(top));
    }

    private static void finiteTreesThroughParts() {
        due.about("a finite tree for each TERM: two UNKNOWNS below each other");
        TermNet x = Nets.withUnknowns(2);
        int g0 = x.term(1, 0, 0, 0);
        int g1 = x.term(1, 1, 0, 0);
        int left = x.term(2, 0, g0, 0);
        int right = x.term(2, g1, 1, 0);
        due.is(false, () -> x.equal(left, right));
        due.is(true, () -> x.equal(0, g1));
        due.is(false, () -> x.equal(1, g0));
        due.is(1, () -> x.count(3));
        due.is(-1, () -> x.top(1));
    }

    private static void signOnTopAndPartsBelow() {
        due.about("a SIGN's TERM has its SIGN on top and the trees of its PARTS below");
        TermNet x = Nets.withUnknowns(2);
        int otherPair = x.sign(2);
        int t = x.term(2, 0, 1, 0);
        int u = x.term(otherPair, 0, 1, 0);
        int v = x.term(2, 1, 0, 0);
        due.is(false, () -> x.equal(t, u));
        due.is(true, () -> x.equal(t, v));
        due.is(true, () -> x.same(0, 1));
        due.is(2, () -> x.top(t));
        due.is(otherPair, () -> x.top(u));
    }

    private static void bothTermsHaveTheSameTree() {
        due.about("both TERMS of each EQUATION that holds have the same tree");
        TermNet x = Nets.withUnknowns(4);
        int k = x.term(0, 0, 0, 0);
        int left = x.term(3, 0, k, 2);
        int right = x.term(3, 1, 3, k);
        due.is(true, () -> x.equal(left, right));
        due.is(true, () -> x.same(left, right));
        due.is(true, () -> x.same(0, 1));
        due.is(0, () -> x.top(2));
        due.is(0, () -> x.top(3));
        due.is(-1, () -> x.top(0));
    }

    private static void holdsFromThenOn() {
        due.about("An EQUATION holds from then on");
        TermNet x = Nets.withUnknowns(3);
        int g2 = x.term(1, 2, 0, 0);
        due.is(true, () -> x.equal(0, 1));
        due.is(true, () -> x.equal(1, g2));
        due.is(false, () -> x.equal(2, 0));
        due.bad(() -> x.equal(0, MAX_TERMS));
        x.unknown();
        x.mark();
        due.is(true, () -> x.equal(2, 4));
        due.is(0, () -> x.back());
        due.is(true, () -> x.same(0, 1));
        due.is(1, () -> x.top(0));
        due.is(2, () -> x.part(0, 0));
        due.is(2, () -> x.count(3));
    }

    private static void elseNothingChanges() {
        due.about("else nothing changes");
        TermNet x = Nets.withUnknowns(3);
        int k = x.term(0, 0, 0, 0);
        int g0 = x.term(1, 0, 0, 0);
        int clashing = x.term(3, 0, 1, k);
        int with = x.term(3, 1, 2, g0);
        int endless = x.term(2, 0, 1, 0);
        int below = x.term(2, 1, g0, 0);
        x.equal(2, k);
        String before = Look.atAll(x);
        due.is(false, () -> x.equal(clashing, with));
        due.is(before, () -> Look.atAll(x));
        due.is(false, () -> x.equal(endless, below));
        due.is(before, () -> Look.atAll(x));
        due.is(true, () -> x.equal(0, 1));
    }

    private static void elseNothingChangesAfterManyMerges() {
        due.about("else nothing changes, after many merges");
        TermNet x = Nets.withSigns();
        int low = x.term(0, 0, 0, 0);
        int left = Nets.tower(x, low, 198);
        int right = Nets.tower(x, x.term(2, low, low, 0), 198);
        String before = Look.at(x, 0, left, left + 1, right);
        due.is(false, () -> x.equal(left, right));
        due.is(before, () -> Look.at(x, 0, left, left + 1, right));
        due.is(false, () -> x.same(left - 1, right - 1));
    }

    private static void otherSignsThanThoseTold() {
        due.about("trees may have any SIGNS, also others than those told: none told");
        TermNet x = new TermNet();
        x.unknown();
        x.unknown();
        due.is(false, () -> x.same(0, 1));
        due.is(-1, () -> x.top(0));
        due.is(2, () -> x.count(4));
        due.is(0, () -> x.count(5));
        due.is(true, () -> x.equal(0, 1));
        due.is(true, () -> x.same(0, 1));
        due.is(-1, () -> x.top(0));
    }

    private static void otherSignsThanTheOnlyOne() {
        due.about("trees may have any SIGNS, also others than those told: the only one");
        TermNet x = new TermNet();
        x.sign(0);
        x.unknown();
        x.unknown();
        x.term(0, 0, 0, 0);
        due.is(false, () -> x.same(0, 1));
        due.is(false, () -> x.same(0, 2));
        due.is(-1, () -> x.top(0));
        due.is(3, () -> x.count(4));
        due.is(1, () -> x.count(5));
    }

    private static void noSignWithoutPartsTold() {
        due.about("trees may have any SIGNS, also others than those told: none without parts");
        TermNet x = new TermNet();
        x.sign(1);
        x.unknown();
        x.unknown();
        x.term(0, 0, 0, 0);
        due.is(true, () -> x.equal(1, 2));
        due.is(-1, () -> x.top(0));
        due.is(0, () -> x.top(1));
        due.is(2, () -> x.size(1));
    }

    private static void sameInAllSolutions() {
        due.about("SAME are two TERMS that have the same tree in all SOLUTIONS");
        TermNet x = Nets.withUnknowns(3);
        int t = x.term(2, 0, 1, 0);
        int u = x.term(2, 1, 2, 0);
        int overT = x.term(1, t, 0, 0);
        int overU = x.term(1, u, 0, 0);
        due.is(true, () -> x.equal(0, 1));
        due.is(false, () -> x.same(overT, overU));
        due.is(true, () -> x.equal(2, 1));
        due.is(true, () -> x.same(overT, overU));
        due.is(true, () -> x.same(t, u));
        due.is(overT, () -> x.least(x.term(1, x.term(2, 2, 0, 0), 0, 0)));
    }

    private static void sameInOneSolutionOnly() {
        due.about("SAME are two TERMS that have the same tree in all SOLUTIONS: not in some alone");
        TermNet x = Nets.withUnknowns(2);
        int k = x.term(0, 0, 0, 0);
        int g0 = x.term(1, 0, 0, 0);
        int gk = x.term(1, k, 0, 0);
        due.is(false, () -> x.same(0, 1));
        due.is(false, () -> x.same(0, k));
        due.is(false, () -> x.same(g0, gk));
        due.is(true, () -> x.same(g0, g0));
        due.is(5, () -> x.count(4));
    }

    private static void knownIfSameAsOneWithASign() {
        due.about("A TERM is KNOWN if it's SAME as one with a SIGN");
        TermNet x = Nets.withUnknowns(4);
        int g3 = x.term(1, 3, 0, 0);
        due.is(1, () -> x.count(5));
        x.equal(0, 1);
        due.is(-1, () -> x.top(1));
        due.is(1, () -> x.count(5));
        x.equal(1, 2);
        x.equal(g3, 2);
        due.is(1, () -> x.top(0));
        due.is(1, () -> x.top(1));
        due.is(1, () -> x.top(g3));
        due.is(-1, () -> x.top(3));
        due.is(1, () -> x.count(5));
        due.is(2, () -> x.count(4));
    }

    private static void twentyPoints() {
        due.about("POINTS, at most 20");
        TermNet x = new TermNet();
        for (int n = 1; n <= MAX_POINTS; n++) {
            int points = n;
            due.is(points, () -> x.mark());
        }
        due.full(() -> x.mark());
        due.is(MAX_POINTS, () -> x.count(2));
        for (int n = MAX_POINTS - 1; n >= 0; n--) {
            int points = n;
            due.is(points, () -> x.back());
        }
        due.is(1, () -> x.mark());
    }

    private static void backToTheLatest() {
        due.about("to go BACK to the latest one");
        TermNet x = new TermNet();
        for (int n = 0; n < MAX_POINTS; n++) {
            x.mark();
            x.unknown();
        }
        for (int n = MAX_POINTS; n > 0; n--) {
            int terms = n;
            due.is(terms, () -> x.count(1));
            due.is(terms - 1, () -> x.back());
        }
        due.is(0, () -> x.count(1));
    }

    private static void backUndoesTerms() {
        due.about("undoes all TERMS that came behind it");
        TermNet x = Nets.withUnknowns(1);
        x.mark();
        Nets.tower(x, 0, MAX_TERMS - 1);
        due.full(() -> x.unknown());
        due.is(0, () -> x.back());
        due.is(1, () -> x.count(1));
        due.is(1, () -> x.count(4));
        due.is(0, () -> x.count(5));
        due.is(1, () -> x.unknown());
        due.is(-1, () -> x.top(1));
        due.is(1, () -> x.least(1));
        due.is(2, () -> x.term(0, 0, 0, 0));
        due.is(0, () -> x.top(2));
        due.missing(() -> x.part(2, 0));
    }

    private static void backUndoesEquations() {
        due.about("undoes all EQUATIONS that came behind it");
        TermNet x = Nets.withUnknowns(4);
        int t = x.term(2, 0, 1, 0);
        int u = x.term(2, 2, 3, 0);
        int k = x.term(0, 0, 0, 0);
        int l = x.term(x.sign(0), 0, 0, 0);
        String before = Look.at(x, 0, 1, 2, 3, t, u, k, l);
        due.is(1, () -> x.mark());
        due.is(true, () -> x.equal(t, u));
        due.is(true, () -> x.equal(3, k));
        due.is(true, () -> x.equal(0, k));
        due.is(false, () -> x.equal(1, l));
        due.is(0, () -> x.back());
        due.is(before, () -> Look.at(x, 0, 1, 2, 3, t, u, k, l));
        due.is(true, () -> x.equal(1, l));
    }

    private static void backUndoesWhatTermsMadeSame() {
        due.about("undoes all TERMS and EQUATIONS: what a TERM behind it was SAME as");
        TermNet x = Nets.withUnknowns(2);
        int g0 = x.term(1, 0, 0, 0);
        String before = Look.atAll(x);
        x.mark();
        due.is(true, () -> x.same(g0, x.term(1, 0, 0, 0)));
        due.is(true, () -> x.equal(1, 3));
        due.is(1, () -> x.top(1));
        due.is(0, () -> x.back());
        due.is(before, () -> Look.atAll(x));
        due.is(3, () -> x.term(1, 1, 0, 0));
        due.is(false, () -> x.same(g0, 3));
    }

    private static void backLeavesWhatCameBefore() {
        due.about("undoes what came behind it, and nothing before");
        TermNet x = Nets.withUnknowns(3);
        int g0 = x.term(1, 0, 0, 0);
        x.equal(2, 1);
        x.equal(1, g0);
        String before = Look.atAll(x);
        x.mark();
        x.equal(0, x.term(0, 0, 0, 0));
        x.back();
        due.is(before, () -> Look.atAll(x));
        due.is(1, () -> x.top(2));
        due.is(2, () -> x.count(3));
    }

    private static void signsStay() {
        due.about("SIGNS stay");
        TermNet x = new TermNet();
        due.is(0, () -> x.sign(0));
        x.mark();
        due.is(1, () -> x.sign(3));
        x.unknown();
        due.is(0, () -> x.back());
        due.is(2, () -> x.count(0));
        due.is(0, () -> x.unknown());
        due.is(1, () -> x.term(1, 0, 0, 0));
        due.is(0, () -> x.part(1, 2));
        x.mark();
        for (int s = 2; s < MAX_SIGNS; s++) {
            x.sign(1);
        }
        due.is(0, () -> x.back());
        due.full(() -> x.sign(1));
        due.is(MAX_SIGNS, () -> x.count(0));
    }

    private static void thePointIsGone() {
        due.about("and it's gone");
        TermNet x = new TermNet();
        x.unknown();
        x.mark();
        x.unknown();
        due.is(0, () -> x.back());
        due.is(0, () -> x.count(2));
        x.unknown();
        due.missing(() -> x.back());
        due.is(2, () -> x.count(1));
        due.is(1, () -> x.mark());
        x.unknown();
        due.is(0, () -> x.back());
        due.is(2, () -> x.count(1));
    }

    private static void noSuchSign() {
        due.about("\"Bad\": no such SIGN");
        TermNet x = Nets.withUnknowns(1);
        for (int s : new int[] {-1, 4, 39, 40, 41, Integer.MIN_VALUE, Integer.MAX_VALUE}) {
            due.bad(() -> x.term(s, 0, 0, 0));
        }
        due.is(1, () -> x.term(3, 0, 0, 0));
        for (int s = 4; s < MAX_SIGNS; s++) {
            x.sign(0);
        }
        due.is(2, () -> x.term(39, 0, 0, 0));
        due.bad(() -> x.term(40, 0, 0, 0));
    }

    private static void noSuchTerm() {
        due.about("\"Bad\": no such TERM");
        TermNet x = Nets.withUnknowns(2);
        for (int t : new int[] {-1, 2, 3, 399, 400, Integer.MIN_VALUE, Integer.MAX_VALUE}) {
            badInEveryPlace(x, t);
        }
        TermNet full = Nets.withUnknowns(MAX_TERMS);
        due.is(MAX_TERMS - 1, () -> full.least(MAX_TERMS - 1));
        badInEveryPlace(full, MAX_TERMS);
        badInEveryPlace(new TermNet(), 0);
    }

    private static void noSuchTermAfterBack() {
        due.about("\"Bad\": no such TERM, since it was undone");
        TermNet x = Nets.withUnknowns(1);
        x.mark();
        x.unknown();
        due.is(true, () -> x.equal(0, 1));
        due.is(0, () -> x.back());
        badInEveryPlace(x, 1);
        due.is(0, () -> x.least(0));
    }

    /** Every call of the face that takes a TERM, with one that is not there. */
    private static void badInEveryPlace(TermNet x, int none) {
        due.bad(() -> x.term(1, none, 0, 0));
        due.bad(() -> x.term(2, 0, none, 0));
        due.bad(() -> x.term(3, 0, 0, none));
        due.bad(() -> x.equal(none, 0));
        due.bad(() -> x.equal(0, none));
        due.bad(() -> x.equal(none, none));
        due.bad(() -> x.same(none, 0));
        due.bad(() -> x.same(0, none));
        due.bad(() -> x.same(none, none));
        due.bad(() -> x.top(none));
        due.bad(() -> x.part(none, 0));
        due.bad(() -> x.least(none));
        due.bad(() -> x.size(none));
        due.bad(() -> x.depth(none));
        due.bad(() -> x.inside(none, 0));
        due.bad(() -> x.inside(0, none));
        due.bad(() -> x.inside(none, none));
        due.bad(() -> x.unknowns(none));
    }

    private static void noSuchNumber() {
        due.about("\"Bad\": no such number");
        TermNet x = new TermNet();
        for (int n : new int[] {-1, 4, 5, Integer.MIN_VALUE, Integer.MAX_VALUE}) {
            due.bad(() -> x.sign(n));
        }
        due.is(0, () -> x.count(0));
    }

    private static void tooMany() {
        due.about("FULL is IndexOutOfBoundsException: too many");
        TermNet x = fullOfAll();
        due.full(() -> x.sign(0));
        due.full(() -> x.sign(3));
        due.full(() -> x.unknown());
        due.full(() -> x.term(0, 0, 0, 0));
        due.full(() -> x.term(3, 0, MAX_TERMS - 1, 1));
        due.full(() -> x.mark());
        due.is(MAX_POINTS - 1, () -> x.back());
        due.is(0, () -> x.count(1));
        due.is(MAX_POINTS, () -> x.mark());
        due.is(0, () -> x.unknown());
        due.full(() -> x.sign(0));
    }

    private static void badBeforeFull() {
        due.about("In this order: \"Bad\" before FULL");
        TermNet x = fullOfAll();
        due.bad(() -> x.sign(-1));
        due.bad(() -> x.sign(4));
        due.bad(() -> x.term(-1, 0, 0, 0));
        due.bad(() -> x.term(MAX_SIGNS, 0, 0, 0));
        due.bad(() -> x.term(1, MAX_TERMS, 0, 0));
        due.bad(() -> x.term(2, 0, MAX_TERMS, 0));
        due.bad(() -> x.term(3, 0, 0, -1));
        due.full(() -> x.term(2, 0, 0, MAX_TERMS));
        due.full(() -> x.term(0, -1, -1, -1));
    }

    private static void badBeforeMissing() {
        due.about("In this order: \"Bad\" before \"missing\"");
        TermNet x = Nets.withUnknowns(1);
        for (int k : new int[] {-1, 0, 3, Integer.MIN_VALUE, Integer.MAX_VALUE}) {
            due.bad(() -> x.part(1, k));
            due.bad(() -> x.part(-1, k));
            due.missing(() -> x.part(0, k));
        }
    }

    private static void badCallsChangeNothing() {
        due.about("A refused call changes nothing: \"Bad\"");
        TermNet x = smallNet();
        String before = Look.atAll(x);
        due.bad(() -> x.sign(4));
        due.bad(() -> x.sign(-1));
        due.bad(() -> x.term(4, 0, 0, 0));
        due.bad(() -> x.term(-1, 0, 0, 0));
        int next = x.count(1);
        badInEveryPlace(x, next);
        badInEveryPlace(x, -1);
        due.is(before, () -> Look.atAll(x));
        due.is(4, () -> x.sign(0));
        due.is(next, () -> x.unknown());
        due.is(0, () -> x.back());
    }

    private static void fullCallsChangeNothing() {
        due.about("A refused call changes nothing: FULL");
        TermNet x = fullOfAll();
        int last = MAX_TERMS - 1;
        String before = Look.at(x, last);
        due.full(() -> x.sign(0));
        due.full(() -> x.unknown());
        due.full(() -> x.term(1, last, 0, 0));
        due.full(() -> x.term(0, 0, 0, 0));
        due.full(() -> x.mark());
        due.is(before, () -> Look.at(x, last));
        due.is(MAX_POINTS - 1, () -> x.back());
        due.is(0, () -> x.count(1));
    }

    private static void missingCallsChangeNothing() {
        due.about("A refused call changes nothing: \"missing\"");
        TermNet x = smallNet();
        due.is(0, () -> x.back());
        String before = Look.atAll(x);
        due.missing(() -> x.back());
        due.missing(() -> x.part(0, 0));
        due.missing(() -> x.part(2, 1));
        due.missing(() -> x.part(2, -1));
        due.is(before, () -> Look.atAll(x));
        due.is(1, () -> x.mark());
    }

    private static void askingChangesNothing() {
        due.about("no call but those that tell something changes what is told");
        TermNet x = smallNet();
        String before = Look.atAll(x);
        for (int a = 0; a < x.count(1); a++) {
            for (int b = 0; b < x.count(1); b++) {
                x.same(a, b);
                x.inside(a, b);
            }
        }
        due.is(before, () -> Look.atAll(x));
        due.is(before, () -> Look.atAll(x));
    }

    private static void memoryIsOwn() {
        due.about("All memory is the class's own rows");
        TermNet x = Nets.withUnknowns(2);
        TermNet y = Nets.withUnknowns(2);
        due.is(true, () -> x.equal(0, 1));
        due.is(1, () -> x.mark());
        due.is(false, () -> y.same(0, 1));
        due.is(0, () -> y.count(2));
        due.is(2, () -> y.term(1, 1, 0, 0));
        due.is(2, () -> x.count(1));
        due.is(new TreeSet<String>(), () -> fieldsOfOtherKinds());
    }

    /** Fields that are neither numbers, rows of these nor the class's own, or that are shared. */
    private static Set<String> fieldsOfOtherKinds() {
        Set<String> others = new TreeSet<>();
        addOthers(others, TermNet.class);
        for (Class<?> inside : TermNet.class.getDeclaredClasses()) {
            addOthers(others, inside);
        }
        return others;
    }

    private static void addOthers(Set<String> others, Class<?> owner) {
        for (Field f : owner.getDeclaredFields()) {
            boolean own = f.getType() == int.class || f.getType() == int[].class
                    || f.getType().getName().startsWith("TermNet$");
            boolean shared = Modifier.isStatic(f.getModifiers())
                    && !(Modifier.isFinal(f.getModifiers()) && f.getType() == int.class);
            if (!f.isSynthetic() && (!own || shared)) {
                others.add(f.toString());
            }
        }
    }

    /** Four SIGNS, six TERMS, one POINT, two EQUATIONS; some TERMS are SAME, some are not KNOWN. */
    private static TermNet smallNet() {
        TermNet x = Nets.withUnknowns(2);
        x.term(1, 0, 0, 0);
        x.term(2, 1, 0, 0);
        x.unknown();
        x.equal(4, 2);
        x.mark();
        x.term(0, 0, 0, 0);
        x.equal(1, 5);
        return x;
    }

    /** Forty SIGNS, twenty POINTS, and behind the last of them 400 TERMS: a tower on an UNKNOWN. */
    private static TermNet fullOfAll() {
        TermNet x = Nets.withSigns();
        for (int s = 4; s < MAX_SIGNS; s++) {
            x.sign(0);
        }
        for (int n = 0; n < MAX_POINTS; n++) {
            x.mark();
        }
        Nets.tower(x, x.unknown(), MAX_TERMS - 1);
        return x;
    }
}
