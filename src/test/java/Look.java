/** All that can be asked of a net, as one text: two nets with one text stand alike. */
final class Look {
    private static final int KINDS_OF_COUNT = 6;
    private static final int MAX_PARTS = 3;

    private Look() {
    }

    /** Six calls, and eight more for each TERM. */
    static String atAll(TermNet x) {
        int[] terms = new int[x.count(1)];
        for (int t = 0; t < terms.length; t++) {
            terms[t] = t;
        }
        return at(x, terms);
    }

    /** For nets that are too large to be looked at whole within 512 calls. */
    static String at(TermNet x, int... terms) {
        StringBuilder text = new StringBuilder("counts");
        for (int what = 0; what < KINDS_OF_COUNT; what++) {
            text.append(' ').append(x.count(what));
        }
        for (int t : terms) {
            addTerm(text, x, t);
        }
        return text.toString();
    }

    private static void addTerm(StringBuilder text, TermNet x, int t) {
        text.append("; ").append(t);
        text.append(" top ").append(x.top(t));
        text.append(" least ").append(x.least(t));
        text.append(" size ").append(x.size(t));
        text.append(" depth ").append(x.depth(t));
        text.append(" unknowns ").append(x.unknowns(t));
        text.append(" parts");
        for (int k = 0; k < MAX_PARTS; k++) {
            int part = k;
            text.append(' ').append(Due.answerOf(() -> x.part(t, part)));
        }
    }
}
