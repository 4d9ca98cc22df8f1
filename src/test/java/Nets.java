/** Nets that several tests begin with. */
final class Nets {
    static final int MAX_SIGNS = 40;
    static final int MAX_TERMS = 400;
    static final int MAX_POINTS = 20;
    static final int MAX_CALLS = 512;
    static final int MAX_SIZE = 1000000000;
    /** No TERMS in any net. */
    static final int[] NO_TERMS = {-1, Integer.MIN_VALUE, Integer.MAX_VALUE, MAX_TERMS};

    private Nets() {
    }

    /** A new object with a SIGN for each number of parts, numbered as it. */
    static TermNet withSigns() {
        TermNet x = new TermNet();
        for (int n = 0; n <= 3; n++) {
            x.sign(n);
        }
        return x;
    }

    /** With these SIGNS and some UNKNOWNS, numbered from 0. */
    static TermNet withUnknowns(int unknowns) {
        TermNet x = withSigns();
        for (int n = 0; n < unknowns; n++) {
            x.unknown();
        }
        return x;
    }

    /** The SIGN with one part over the ground, so many times. */
    static int tower(TermNet x, int ground, int levels) {
        int t = ground;
        for (int n = 0; n < levels; n++) {
            t = x.term(1, t, 0, 0);
        }
        return t;
    }

    /** A tree with so many UNKNOWNS and SIGNS, made of doublings and steps of one. */
    static int treeOfSize(TermNet x, long wanted) {
        if (wanted == 1) {
            return x.unknown();
        }
        if (wanted % 2 == 0) {
            return x.term(1, treeOfSize(x, wanted - 1), 0, 0);
        }
        int half = treeOfSize(x, (wanted - 1) / 2);
        return x.term(2, half, half, 0);
    }
}
