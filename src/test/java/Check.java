/** Compares answers with those that are due, and ends a test with exit code 1 if one was wrong. */
final class Check {
    private static int right = 0;
    private static int wrong = 0;

    private Check() {
    }

    /** A call that may throw. */
    interface Call {
        Object answer();
    }

    static void due(String what, Object want, Call call) {
        Object got = answerOf(call);
        if (want.equals(got)) {
            right++;
        } else {
            wrong++;
            System.out.println(what + " answered " + got + ", due is " + want);
        }
    }

    /** The answer, or, as in the issues, throws. and the exception's name. */
    static Object answerOf(Call call) {
        try {
            return call.answer();
        } catch (RuntimeException e) {
            return "throws." + e.getClass().getSimpleName();
        }
    }

    static void end(String test) {
        System.out.println(test + ": " + right + " answers as due, " + wrong + " not");
        if (wrong != 0 || right == 0) {
            System.exit(1);
        }
    }
}
