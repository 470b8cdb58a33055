/** Counts the answers that are not the ones that are due, and tells of each. */
final class Check {
    /** A call that may throw. */
    interface Call {
        Object answer();
    }

    private int right;
    private int wrong;

    /** The answer as a text; of an exception its class's name behind "throws.". */
    static String told(Call call) {
        try {
            return String.valueOf(call.answer());
        } catch (RuntimeException e) {
            return "throws." + e.getClass().getSimpleName();
        }
    }

    void due(String what, Object want, Call call) {
        same(what, String.valueOf(want), told(call));
    }

    void same(String what, String want, String got) {
        if (want.equals(got)) {
            right++;
        } else {
            wrong++;
            System.out.println(what + " answered " + got + ", due is " + want);
        }
    }

    /** Ends the program with 1 when an answer was wrong, or when there was none at all. */
    void end() {
        System.out.println(right + " answers as due, " + wrong + " not");
        if (wrong != 0 || right == 0) {
            System.exit(1);
        }
    }
}
