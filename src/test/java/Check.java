/** What the tests of the project share: due answers, due exceptions, and the end of a test. */
final class Check {
    /** A call that may throw. */
    interface Call {
        long answer();
    }

    /** A call that may throw, of whichever object. */
    interface On {
        long answer(ForestHouse x);
    }

    private int wrong = 0;
    private int made = 0;
    private String about = "";

    /** The answer as a text, or the exact name of the exception's class. */
    static String told(Call call) {
        try {
            return Long.toString(call.answer());
        } catch (RuntimeException e) {
            return "throws " + e.getClass().getName();
        }
    }

    /** What the answers from here on are about: it is printed before each wrong one. */
    void about(String what) {
        about = what + ": ";
    }

    void due(String what, long want, Call call) {
        same(what, Long.toString(want), told(call));
    }

    void dueThrow(String what, Class<? extends RuntimeException> want, Call call) {
        same(what, "throws " + want.getName(), told(call));
    }

    void same(String what, String want, String got) {
        made++;
        if (!want.equals(got)) {
            wrong++;
            if (wrong <= 20) {
                System.out.println(about + what + " answered " + got + ", due is " + want);
            }
        }
    }

    int made() {
        return made;
    }

    boolean anyWrong() {
        return wrong > 0;
    }

    void end() {
        System.out.println(made + " answers, " + wrong + " of them wrong");
        if (wrong > 0 || made == 0) {
            System.exit(1);
        }
    }
}
