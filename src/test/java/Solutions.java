import java.util.ArrayList;
import java.util.Arrays;
import java.util.HashMap;
import java.util.List;
import java.util.Map;
import java.util.NoSuchElementException;
import java.util.Set;
import java.util.TreeSet;

/**
 * The document's definitions word by word, for nets that are small: all SOLUTIONS are written out,
 * and what holds, what is SAME and what is KNOWN is read off from them. Nothing is worked out from
 * the equations themselves.
 *
 * <p>Only trees up to a height are tried for an UNKNOWN. It is for the test to keep to nets where
 * higher ones would tell nothing new.
 */
final class Solutions {
    /** "Also others than those told": one such SIGN, without parts. */
    private static final int SIGN_NOT_TOLD = -2;
    private static final int UNKNOWN = -1;

    private record Term(int sign, int[] parts) {
    }

    private record Point(int terms, List<int[]> solutions, int equations) {
    }

    private final int[] partsOfSign;
    private final int mostTerms;
    /** Trees that are equal have one number. */
    private final Map<List<Integer>, Integer> trees = new HashMap<>();
    private final List<Integer> treesOfUnknowns;
    private final List<Term> terms = new ArrayList<>();
    private final List<Point> points = new ArrayList<>();
    /** A SOLUTION is the tree of each TERM. */
    private List<int[]> solutions = new ArrayList<>();
    private int equations = 0;

    Solutions(int[] partsOfSign, int mostTerms, int height) {
        this.partsOfSign = partsOfSign;
        this.mostTerms = mostTerms;
        treesOfUnknowns = treesUpTo(height);
        solutions.add(new int[mostTerms]);
    }

    int unknown() {
        List<int[]> more = new ArrayList<>();
        for (int[] solution : solutions) {
            for (int tree : treesOfUnknowns) {
                int[] next = solution.clone();
                next[terms.size()] = tree;
                more.add(next);
            }
        }
        solutions = more;
        terms.add(new Term(UNKNOWN, new int[0]));
        return terms.size() - 1;
    }

    int term(int s, int[] given) {
        int[] parts = Arrays.copyOf(given, partsOfSign[s]);
        List<int[]> more = new ArrayList<>();
        for (int[] solution : solutions) {
            int[] next = solution.clone();
            int[] below = new int[parts.length];
            for (int k = 0; k < parts.length; k++) {
                below[k] = solution[parts[k]];
            }
            next[terms.size()] = tree(s, below);
            more.add(next);
        }
        solutions = more;
        terms.add(new Term(s, parts));
        return terms.size() - 1;
    }

    boolean equal(int a, int b) {
        List<int[]> left = new ArrayList<>();
        for (int[] solution : solutions) {
            if (solution[a] == solution[b]) {
                left.add(solution);
            }
        }
        if (left.isEmpty()) {
            return false;
        }
        solutions = left;
        equations++;
        return true;
    }

    boolean same(int a, int b) {
        for (int[] solution : solutions) {
            if (solution[a] != solution[b]) {
                return false;
            }
        }
        return true;
    }

    int top(int a) {
        Term known = known(a);
        return known == null ? -1 : known.sign();
    }

    int part(int a, int k) {
        Term known = known(a);
        if (known == null || k < 0 || k >= known.parts().length) {
            throw new NoSuchElementException();
        }
        return least(known.parts()[k]);
    }

    int least(int a) {
        int t = 0;
        while (!same(t, a)) {
            t++;
        }
        return t;
    }

    int size(int a) {
        Term known = known(a);
        int sum = 1;
        for (int p : known == null ? new int[0] : known.parts()) {
            sum += size(p);
        }
        return sum;
    }

    int depth(int a) {
        Term known = known(a);
        int deepest = 0;
        for (int p : known == null ? new int[0] : known.parts()) {
            deepest = Math.max(deepest, depth(p));
        }
        return deepest + 1;
    }

    boolean inside(int a, int b) {
        return known(a) == null && unknownsIn(b).contains(least(a));
    }

    int unknowns(int a) {
        return unknownsIn(a).size();
    }

    int mark() {
        points.add(new Point(terms.size(), solutions, equations));
        return points.size();
    }

    int back() {
        if (points.isEmpty()) {
            throw new NoSuchElementException();
        }
        Point point = points.remove(points.size() - 1);
        terms.subList(point.terms(), terms.size()).clear();
        solutions = point.solutions();
        equations = point.equations();
        return points.size();
    }

    int count(int what) {
        return switch (what) {
            case 0 -> partsOfSign.length;
            case 1 -> terms.size();
            case 2 -> points.size();
            case 3 -> equations;
            case 4 -> groups(false);
            case 5 -> groups(true);
            default -> -1;
        };
    }

    boolean isFull() {
        return terms.size() == mostTerms;
    }

    /** Whether a TERM is an UNKNOWN or a SIGN without parts. */
    boolean isLeaf(int a) {
        return terms.get(a).parts().length == 0;
    }

    private int groups(boolean knownOnly) {
        int found = 0;
        for (int t = 0; t < terms.size(); t++) {
            if (least(t) == t && (!knownOnly || known(t) != null)) {
                found++;
            }
        }
        return found;
    }

    /** The TERM with a SIGN that a TERM is SAME as, or null. */
    private Term known(int a) {
        for (int t = 0; t < terms.size(); t++) {
            if (terms.get(t).sign() != UNKNOWN && same(t, a)) {
                return terms.get(t);
            }
        }
        return null;
    }

    private Set<Integer> unknownsIn(int a) {
        Set<Integer> found = new TreeSet<>();
        Term known = known(a);
        if (known == null) {
            found.add(least(a));
            return found;
        }
        for (int p : known.parts()) {
            found.addAll(unknownsIn(p));
        }
        return found;
    }

    private List<Integer> treesUpTo(int height) {
        List<Integer> found = new ArrayList<>();
        for (int h = 1; h <= height; h++) {
            List<Integer> higher = new ArrayList<>();
            higher.add(tree(SIGN_NOT_TOLD, new int[0]));
            for (int s = 0; s < partsOfSign.length; s++) {
                addTrees(higher, s, found, new int[partsOfSign[s]], 0);
            }
            found = higher;
        }
        return found;
    }

    private void addTrees(List<Integer> to, int s, List<Integer> lower, int[] below, int k) {
        if (k == below.length) {
            to.add(tree(s, below));
            return;
        }
        for (int t : lower) {
            below[k] = t;
            addTrees(to, s, lower, below, k + 1);
        }
    }

    private int tree(int s, int[] below) {
        List<Integer> key = new ArrayList<>();
        key.add(s);
        for (int t : below) {
            key.add(t);
        }
        trees.putIfAbsent(key, trees.size());
        return trees.get(key);
    }
}
