import java.util.Arrays;
import java.util.NoSuchElementException;

/**
 * Terms with unknowns in them, and equations between these: each one either holds together with
 * all before it, or is told that it cannot.
 *
 * <p>SAME terms are held as groups. An equation joins two groups, which asks the parts below to be
 * joined too (Groups.settle); it holds if no two signs clash and no group comes to lie below itself
 * (Walk.overAll). Terms with one sign and SAME parts are then joined as well (Twins).
 */
public final class TermNet {
    private static final int MAX_SIGNS = 40;
    private static final int MAX_TERMS = 400;
    private static final int MAX_POINTS = 20;
    private static final int MAX_PARTS = 3;
    private static final int MAX_SIZE = 1000000000;
    private static final int NONE = -1;

    private final Told told = new Told();
    private final Groups groups = new Groups(told);
    private final Walk walk = new Walk(groups);
    private final Twins twins = new Twins(groups);
    private final int[] pointTerms = new int[MAX_POINTS];
    private final int[] pointMerges = new int[MAX_POINTS];
    private final int[] pointEquations = new int[MAX_POINTS];
    private int points = 0;
    private int equations = 0;

    public TermNet() {
    }

    public int sign(int n) throws IllegalArgumentException, IndexOutOfBoundsException {
        if (n < 0 || n > MAX_PARTS) {
            throw new IllegalArgumentException("no such number of parts");
        }
        if (told.signs == MAX_SIGNS) {
            throw new IndexOutOfBoundsException("too many signs");
        }
        return told.addSign(n);
    }

    public int unknown() throws IndexOutOfBoundsException {
        refuseWhenFull();
        int t = told.addUnknown();
        groups.found(t);
        return t;
    }

    public int term(int s, int a, int b, int c)
            throws IllegalArgumentException, IndexOutOfBoundsException {
        if (!told.canBeTerm(s, a, b, c)) {
            throw new IllegalArgumentException("no such sign or part");
        }
        refuseWhenFull();
        int t = told.addTerm(s, a, b, c);
        groups.found(t);
        groups.joinToTwin(t);
        return t;
    }

    public boolean equal(int a, int b) throws IllegalArgumentException {
        refuseUnlessTerm(a);
        refuseUnlessTerm(b);
        int before = groups.merges;
        groups.join(a, b);
        if (!groups.settle(before) || !walk.overAll(told.terms)) {
            groups.undoTo(before);
            return false;
        }
        twins.joinAll(walk);
        equations++;
        return true;
    }

    public boolean same(int a, int b) throws IllegalArgumentException {
        refuseUnlessTerm(a);
        refuseUnlessTerm(b);
        return groups.leaderOf(a) == groups.leaderOf(b);
    }

    public int top(int a) throws IllegalArgumentException {
        refuseUnlessTerm(a);
        return groups.isKnown(a) ? told.signOf[groups.shapeOf(a)] : NONE;
    }

    public int part(int a, int k) throws IllegalArgumentException, NoSuchElementException {
        refuseUnlessTerm(a);
        if (k < 0 || k >= groups.partsOf(a)) {
            throw new NoSuchElementException("no such part");
        }
        return groups.partLeader(a, k);
    }

    public int least(int a) throws IllegalArgumentException {
        refuseUnlessTerm(a);
        return groups.leaderOf(a);
    }

    public int size(int a) throws IllegalArgumentException {
        refuseUnlessTerm(a);
        return walk.sizeBelow(a);
    }

    public int depth(int a) throws IllegalArgumentException {
        refuseUnlessTerm(a);
        return walk.depthBelow(a);
    }

    public boolean inside(int a, int b) throws IllegalArgumentException {
        refuseUnlessTerm(a);
        refuseUnlessTerm(b);
        return !groups.isKnown(a) && walk.findsBelow(a, b);
    }

    public int unknowns(int a) throws IllegalArgumentException {
        refuseUnlessTerm(a);
        return walk.unknownsBelow(a);
    }

    public int mark() throws IndexOutOfBoundsException {
        if (points == MAX_POINTS) {
            throw new IndexOutOfBoundsException("too many points");
        }
        pointTerms[points] = told.terms;
        pointMerges[points] = groups.merges;
        pointEquations[points] = equations;
        points++;
        return points;
    }

    public int back() throws NoSuchElementException {
        if (points == 0) {
            throw new NoSuchElementException("no point");
        }
        points--;
        groups.undoTo(pointMerges[points]);
        told.terms = pointTerms[points];
        equations = pointEquations[points];
        return points;
    }

    public int count(int what) {
        switch (what) {
            case 0:
                return told.signs;
            case 1:
                return told.terms;
            case 2:
                return points;
            case 3:
                return equations;
            case 4:
                // Each merge that stands has made two groups one.
                return told.terms - groups.merges;
            case 5:
                return groups.knownGroups();
            default:
                return -1;
        }
    }

    private void refuseUnlessTerm(int a) {
        if (!told.isTerm(a)) {
            throw new IllegalArgumentException("no such term");
        }
    }

    private void refuseWhenFull() {
        if (told.terms == MAX_TERMS) {
            throw new IndexOutOfBoundsException("too many terms");
        }
    }

    /** The SIGNS and TERMS as they were told; no equation changes them. */
    private static final class Told {
        private final int[] partsOfSign = new int[MAX_SIGNS];
        private final int[] signOf = new int[MAX_TERMS];
        private final int[] parts = new int[MAX_TERMS * MAX_PARTS];
        private int signs = 0;
        private int terms = 0;

        boolean isTerm(int a) {
            return a >= 0 && a < terms;
        }

        boolean canBeTerm(int s, int a, int b, int c) {
            if (s < 0 || s >= signs) {
                return false;
            }
            int n = partsOfSign[s];
            return (n < 1 || isTerm(a)) && (n < 2 || isTerm(b)) && (n < 3 || isTerm(c));
        }

        int addSign(int n) {
            partsOfSign[signs] = n;
            signs++;
            return signs - 1;
        }

        int addUnknown() {
            signOf[terms] = NONE;
            terms++;
            return terms - 1;
        }

        int addTerm(int s, int a, int b, int c) {
            signOf[terms] = s;
            parts[terms * MAX_PARTS] = a;
            parts[terms * MAX_PARTS + 1] = b;
            parts[terms * MAX_PARTS + 2] = c;
            terms++;
            return terms - 1;
        }

        /** An UNKNOWN has no parts of its own. */
        int partsOfTerm(int t) {
            return signOf[t] == NONE ? 0 : partsOfSign[signOf[t]];
        }

        int partOfTerm(int t, int k) {
            return parts[t * MAX_PARTS + k];
        }
    }

    /**
     * The groups of SAME TERMS. Each bears the number of its least TERM, its leader. Merges stand
     * in a trail, so that the latest can be undone first.
     */
    private static final class Groups {
        private final Told told;
        private final int[] leader = new int[MAX_TERMS];
        /** A group is a ring of TERMS: two swapped links join two rings, and part them again. */
        private final int[] ring = new int[MAX_TERMS];
        /** For a leader: a TERM with a SIGN in its group, or NONE. Kept when the lead is lost. */
        private final int[] shape = new int[MAX_TERMS];
        /** The leaders that lost their place, in the order in which they did. */
        private final int[] trail = new int[MAX_TERMS];
        private int merges = 0;

        Groups(Told told) {
            this.told = told;
        }

        /** A group of one TERM that is new. */
        void found(int t) {
            leader[t] = t;
            ring[t] = t;
            shape[t] = told.signOf[t] == NONE ? NONE : t;
        }

        int leaderOf(int t) {
            return leader[t];
        }

        int shapeOf(int t) {
            return shape[leader[t]];
        }

        boolean isKnown(int t) {
            return shapeOf(t) != NONE;
        }

        /** None where the group is not KNOWN. */
        int partsOf(int t) {
            int s = shapeOf(t);
            return s == NONE ? 0 : told.partsOfTerm(s);
        }

        int partLeader(int t, int k) {
            return leader[told.partOfTerm(shapeOf(t), k)];
        }

        int knownGroups() {
            int known = 0;
            for (int t = 0; t < told.terms; t++) {
                if (leader[t] == t && shape[t] != NONE) {
                    known++;
                }
            }
            return known;
        }

        /** Makes two groups one; what that asks of their parts is left to settle. */
        void join(int a, int b) {
            if (leader[a] == leader[b]) {
                return;
            }
            int winner = Math.min(leader[a], leader[b]);
            int loser = Math.max(leader[a], leader[b]);
            leadRing(loser, winner);
            swapLinks(winner, loser);
            if (shape[winner] == NONE) {
                shape[winner] = shape[loser];
            }
            trail[merges] = loser;
            merges++;
        }

        /** Joins the parts of all that was merged from there on; false if two SIGNS clash. */
        boolean settle(int from) {
            // The trail grows meanwhile: it is the list of what is still to be looked at.
            for (int i = from; i < MAX_TERMS && i < merges; i++) {
                if (!joinParts(trail[i])) {
                    return false;
                }
            }
            return true;
        }

        private boolean joinParts(int loser) {
            int own = shape[loser];
            int common = shapeOf(loser);
            // A shape that the group took over from the loser has nothing beside it to match.
            if (own == NONE || own == common) {
                return true;
            }
            if (told.signOf[own] != told.signOf[common]) {
                return false;
            }
            for (int k = 0; k < told.partsOfTerm(own); k++) {
                join(told.partOfTerm(own, k), told.partOfTerm(common, k));
            }
            return true;
        }

        void undoTo(int kept) {
            for (int i = merges - 1; i >= kept; i--) {
                undo(trail[i]);
            }
            merges = kept;
        }

        private void undo(int loser) {
            int winner = leader[loser];
            swapLinks(winner, loser);
            leadRing(loser, loser);
            // Two groups never share a TERM, so an equal shape was the loser's.
            if (shape[winner] == shape[loser]) {
                shape[winner] = NONE;
            }
        }

        private void leadRing(int start, int newLeader) {
            int t = start;
            for (int n = 0; n < MAX_TERMS; n++) {
                leader[t] = newLeader;
                t = ring[t];
                if (t == start) {
                    break;
                }
            }
        }

        private void swapLinks(int a, int b) {
            int behind = ring[a];
            ring[a] = ring[b];
            ring[b] = behind;
        }

        /** A new TERM is SAME as an older one that has its SIGN and SAME PARTS. */
        void joinToTwin(int t) {
            for (int u = 0; u < t; u++) {
                if (areTwins(u, t)) {
                    join(u, t);
                    break;
                }
            }
        }

        /** Whether two TERMS have one SIGN and SAME PARTS. */
        boolean areTwins(int t, int u) {
            if (told.signOf[t] == NONE || told.signOf[t] != told.signOf[u]) {
                return false;
            }
            for (int k = 0; k < told.partsOfTerm(t); k++) {
                if (leader[told.partOfTerm(t, k)] != leader[told.partOfTerm(u, k)]) {
                    return false;
                }
            }
            return true;
        }
    }

    /**
     * A walk through groups and the parts below them, each group once, parts before what they are
     * parts of. It keeps its own path, since trees may be deeper than calls may stand open.
     */
    private static final class Walk {
        private static final int NEW = 0;
        private static final int OPEN = 1;
        private static final int DONE = 2;
        /** A group is looked at once for each part, and once to leave it. */
        private static final int MAX_STEPS = MAX_TERMS * (MAX_PARTS + 1);

        private final Groups groups;
        private final int[] state = new int[MAX_TERMS];
        private final int[] partsTried = new int[MAX_TERMS];
        private final int[] path = new int[MAX_TERMS];
        private final int[] order = new int[MAX_TERMS];
        private final int[] value = new int[MAX_TERMS];
        private int pathLength = 0;
        private int ordered = 0;

        Walk(Groups groups) {
            this.groups = groups;
        }

        /** Through all groups; false if one lies below itself, which no finite tree can. */
        boolean overAll(int terms) {
            begin();
            for (int t = 0; t < terms; t++) {
                if (!reach(groups.leaderOf(t))) {
                    return false;
                }
            }
            return true;
        }

        int sizeBelow(int a) {
            overTree(a);
            for (int i = 0; i < ordered; i++) {
                value[order[i]] = sizeOver(order[i]);
            }
            return value[groups.leaderOf(a)];
        }

        private int sizeOver(int g) {
            long sum = 1;
            for (int k = 0; k < groups.partsOf(g); k++) {
                sum += value[groups.partLeader(g, k)];
            }
            return (int) Math.min(sum, (long) MAX_SIZE);
        }

        int depthBelow(int a) {
            overTree(a);
            for (int i = 0; i < ordered; i++) {
                value[order[i]] = depthOver(order[i]);
            }
            return value[groups.leaderOf(a)];
        }

        private int depthOver(int g) {
            int deepest = 0;
            for (int k = 0; k < groups.partsOf(g); k++) {
                deepest = Math.max(deepest, value[groups.partLeader(g, k)]);
            }
            return deepest + 1;
        }

        int unknownsBelow(int a) {
            overTree(a);
            int found = 0;
            for (int i = 0; i < ordered; i++) {
                if (!groups.isKnown(order[i])) {
                    found++;
                }
            }
            return found;
        }

        boolean findsBelow(int a, int b) {
            overTree(b);
            return state[groups.leaderOf(a)] == DONE;
        }

        private void overTree(int a) {
            begin();
            reach(groups.leaderOf(a));
        }

        private void begin() {
            Arrays.fill(state, NEW);
            pathLength = 0;
            ordered = 0;
        }

        private boolean reach(int root) {
            boolean finite = enter(root);
            for (int step = 0; step < MAX_STEPS && finite && pathLength > 0; step++) {
                finite = goOn(path[pathLength - 1]);
            }
            return finite;
        }

        /** From the end of the path down to its next part or, when all were tried, back up. */
        private boolean goOn(int g) {
            if (partsTried[g] < groups.partsOf(g)) {
                partsTried[g]++;
                return enter(groups.partLeader(g, partsTried[g] - 1));
            }
            state[g] = DONE;
            order[ordered] = g;
            ordered++;
            pathLength--;
            return true;
        }

        /** False for a group that is on the path already: it would lie below itself. */
        private boolean enter(int g) {
            if (state[g] == NEW) {
                state[g] = OPEN;
                partsTried[g] = 0;
                path[pathLength] = g;
                pathLength++;
            } else if (state[g] == OPEN) {
                return false;
            }
            return true;
        }
    }

    /**
     * Joins the groups that an equation has made twins: one SIGN, SAME PARTS. It goes through a
     * walk's order, where the parts are joined before what they are parts of, so once is enough.
     */
    private static final class Twins {
        private static final int BUCKETS = 401;
        private static final int FACTOR = 1000003;

        private final Groups groups;
        private final int[] first = new int[BUCKETS];
        private final int[] next = new int[MAX_TERMS];
        private final int[] print = new int[MAX_TERMS];

        Twins(Groups groups) {
            this.groups = groups;
        }

        void joinAll(Walk walk) {
            Arrays.fill(first, NONE);
            for (int i = 0; i < walk.ordered; i++) {
                int g = walk.order[i];
                print[g] = printOf(g);
                if (groups.isKnown(g)) {
                    joinOrKeep(groups.shapeOf(g), Math.floorMod(print[g], BUCKETS));
                }
            }
        }

        /**
         * Made of the tree alone, never of a KNOWN group's leader: that one changes when a twin of
         * less number comes up, and the group would not be found again.
         */
        private int printOf(int g) {
            if (!groups.isKnown(g)) {
                return g;
            }
            int mixed = -1 - groups.told.signOf[groups.shapeOf(g)];
            for (int k = 0; k < groups.partsOf(g); k++) {
                mixed = mixed * FACTOR + print[groups.partLeader(g, k)];
            }
            return mixed;
        }

        private void joinOrKeep(int t, int bucket) {
            int u = first[bucket];
            for (int n = 0; n < MAX_TERMS && u != NONE; n++) {
                if (groups.areTwins(t, u)) {
                    groups.join(t, u);
                    return;
                }
                u = next[u];
            }
            next[t] = first[bucket];
            first[bucket] = t;
        }
    }
}
