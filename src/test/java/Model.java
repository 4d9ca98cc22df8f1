import java.math.BigInteger;
import java.util.ArrayList;
import java.util.HashMap;
import java.util.HashSet;
import java.util.List;
import java.util.Map;
import java.util.NoSuchElementException;
import java.util.Set;

/**
 * The document told a second time, in another way: an UNKNOWN may be bound to a TERM, nothing else
 * is kept, and TERMS are SAME if they look the same when every binding is followed.
 */
final class Model {
    private static final int[] NO_PARTS = {};
    private static final BigInteger MOST = BigInteger.valueOf(1000000000L);

    private record Term(int sign, int[] parts) {
    }

    private record Point(int terms, Map<Integer, Integer> bound, int equations) {
    }

    private final List<Integer> signs = new ArrayList<>();
    private final List<Term> terms = new ArrayList<>();
    private final List<Point> points = new ArrayList<>();
    private Map<Integer, Integer> bound = new HashMap<>();
    private int equations = 0;

    int sign(int n) {
        bad(n < 0 || n > 3);
        full(signs.size() >= 40);
        signs.add(n);
        return signs.size() - 1;
    }

    int unknown() {
        full(terms.size() >= 400);
        terms.add(new Term(-1, NO_PARTS));
        return terms.size() - 1;
    }

    int term(int s, int a, int b, int c) {
        bad(s < 0 || s >= signs.size());
        int[] given = {a, b, c};
        int[] parts = new int[signs.get(s)];
        for (int k = 0; k < parts.length; k++) {
            check(given[k]);
            parts[k] = given[k];
        }
        full(terms.size() >= 400);
        terms.add(new Term(s, parts));
        return terms.size() - 1;
    }

    boolean equal(int a, int b) {
        check(a);
        check(b);
        Map<Integer, Integer> before = new HashMap<>(bound);
        if (!unify(a, b, new HashSet<>())) {
            bound = before;
            return false;
        }
        equations++;
        return true;
    }

    boolean same(int a, int b) {
        check(a);
        check(b);
        Map<String, Integer> looks = new HashMap<>();
        Map<Integer, Integer> known = new HashMap<>();
        return look(a, looks, known) == look(b, looks, known);
    }

    int top(int a) {
        check(a);
        return terms.get(follow(a)).sign();
    }

    int part(int a, int k) {
        check(a);
        int[] parts = terms.get(follow(a)).parts();
        if (k < 0 || k >= parts.length) {
            throw new NoSuchElementException();
        }
        return least(parts[k]);
    }

    int least(int a) {
        check(a);
        Map<String, Integer> looks = new HashMap<>();
        Map<Integer, Integer> known = new HashMap<>();
        int wanted = look(a, looks, known);
        for (int t = 0; t < a; t++) {
            if (look(t, looks, known) == wanted) {
                return t;
            }
        }
        return a;
    }

    int size(int a) {
        check(a);
        return sizeOf(a, new HashMap<>()).min(MOST).intValueExact();
    }

    int depth(int a) {
        check(a);
        return depthOf(a, new HashMap<>());
    }

    boolean inside(int a, int b) {
        check(a);
        check(b);
        Set<Integer> free = new HashSet<>();
        addFree(b, free, new HashSet<>());
        return free.contains(follow(a));
    }

    int unknowns(int a) {
        check(a);
        Set<Integer> free = new HashSet<>();
        addFree(a, free, new HashSet<>());
        return free.size();
    }

    int mark() {
        full(points.size() >= 20);
        points.add(new Point(terms.size(), new HashMap<>(bound), equations));
        return points.size();
    }

    int back() {
        if (points.isEmpty()) {
            throw new NoSuchElementException();
        }
        Point point = points.remove(points.size() - 1);
        terms.subList(point.terms(), terms.size()).clear();
        bound = point.bound();
        equations = point.equations();
        return points.size();
    }

    int count(int what) {
        return switch (what) {
            case 0 -> signs.size();
            case 1 -> terms.size();
            case 2 -> points.size();
            case 3 -> equations;
            case 4 -> groups(false);
            case 5 -> groups(true);
            default -> -1;
        };
    }

    private int groups(boolean knownOnly) {
        Map<String, Integer> looks = new HashMap<>();
        Map<Integer, Integer> known = new HashMap<>();
        Set<Integer> groups = new HashSet<>();
        for (int t = 0; t < terms.size(); t++) {
            if (!knownOnly || terms.get(follow(t)).sign() >= 0) {
                groups.add(look(t, looks, known));
            }
        }
        return groups.size();
    }

    /** The TERM at the end of the bindings: a SIGN's, or an UNKNOWN that is free. */
    private int follow(int a) {
        int t = a;
        while (bound.containsKey(t)) {
            t = bound.get(t);
        }
        return t;
    }

    private boolean unify(int a, int b, Set<Long> done) {
        int t = follow(a);
        int u = follow(b);
        if (t == u || !done.add(t * 1000L + u)) {
            return true;
        }
        if (terms.get(t).sign() < 0) {
            return bind(t, u);
        }
        if (terms.get(u).sign() < 0) {
            return bind(u, t);
        }
        if (terms.get(t).sign() != terms.get(u).sign()) {
            return false;
        }
        for (int k = 0; k < terms.get(t).parts().length; k++) {
            if (!unify(terms.get(t).parts()[k], terms.get(u).parts()[k], done)) {
                return false;
            }
        }
        return true;
    }

    private boolean bind(int unknown, int t) {
        Set<Integer> free = new HashSet<>();
        addFree(t, free, new HashSet<>());
        if (free.contains(unknown)) {
            return false;
        }
        bound.put(unknown, t);
        return true;
    }

    private void addFree(int a, Set<Integer> free, Set<Integer> done) {
        int t = follow(a);
        if (!done.add(t)) {
            return;
        }
        if (terms.get(t).sign() < 0) {
            free.add(t);
        }
        for (int p : terms.get(t).parts()) {
            addFree(p, free, done);
        }
    }

    /** One number for each way to look: a free UNKNOWN's own, or a SIGN over the looks below. */
    private int look(int a, Map<String, Integer> looks, Map<Integer, Integer> known) {
        int t = follow(a);
        Integer before = known.get(t);
        if (before != null) {
            return before;
        }
        StringBuilder text = new StringBuilder();
        text.append(terms.get(t).sign() < 0 ? "unknown " + t : "sign " + terms.get(t).sign());
        for (int p : terms.get(t).parts()) {
            text.append(' ').append(look(p, looks, known));
        }
        looks.putIfAbsent(text.toString(), looks.size());
        known.put(t, looks.get(text.toString()));
        return known.get(t);
    }

    private BigInteger sizeOf(int a, Map<Integer, BigInteger> known) {
        int t = follow(a);
        if (!known.containsKey(t)) {
            BigInteger sum = BigInteger.ONE;
            for (int p : terms.get(t).parts()) {
                sum = sum.add(sizeOf(p, known));
            }
            known.put(t, sum);
        }
        return known.get(t);
    }

    private int depthOf(int a, Map<Integer, Integer> known) {
        int t = follow(a);
        if (!known.containsKey(t)) {
            int deepest = 0;
            for (int p : terms.get(t).parts()) {
                deepest = Math.max(deepest, depthOf(p, known));
            }
            known.put(t, deepest + 1);
        }
        return known.get(t);
    }

    private void check(int a) {
        bad(a < 0 || a >= terms.size());
    }

    private static void bad(boolean refused) {
        if (refused) {
            throw new IllegalArgumentException();
        }
    }

    private static void full(boolean refused) {
        if (refused) {
            throw new IndexOutOfBoundsException();
        }
    }
}
