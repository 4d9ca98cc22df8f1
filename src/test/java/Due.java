/** Compares answers with those that are due, and counts the wrong ones. */
final class Due {
    interface Call {
        Object answer();
    }

    private final String test;
    private String part = "";
    private int checks = 0;
    private int wrong = 0;

    Due(String test) {
        this.test = test;
    }

    /** What the checks that follow are about. */
    void about(String newPart) {
        part = newPart;
    }

    void is(Object want, Call call) {
        told(String.valueOf(want), answerOf(call));
    }

    /** The document's "Bad". */
    void bad(Call call) {
        told("throws.IllegalArgumentException", answerOf(call));
    }

    /** The document's FULL. */
    void full(Call call) {
        told("throws.IndexOutOfBoundsException", answerOf(call));
    }

    /** The document's "missing". */
    void missing(Call call) {
        told("throws.NoSuchElementException", answerOf(call));
    }

    void told(String want, String got) {
        checks++;
        if (!want.equals(got)) {
            wrong++;
            StackTraceElement[] places = new Throwable().getStackTrace();
            System.out.println(test + ", " + part + ", line " + placeIn(places)
                    + ": answered " + got + ", due is " + want);
        }
    }

    boolean anyWrong() {
        return wrong != 0;
    }

    void end() {
        System.out.println(test + ": " + checks + " checks, " + wrong + " wrong");
        if (wrong != 0) {
            System.exit(1);
        }
    }

    static String answerOf(Call call) {
        try {
            return String.valueOf(call.answer());
        } catch (RuntimeException e) {
            return "throws." + e.getClass().getSimpleName();
        }
    }

    private int placeIn(StackTraceElement[] places) {
        for (StackTraceElement place : places) {
            if (place.getClassName().equals(test)) {
                return place.getLineNumber();
            }
        }
        return 0;
    }
}
