/** Counts the answers of a test that are not due, and tells each of them. */
final class Check {
    /** A call that may throw; its answer is a number, a boolean or nothing. */
    interface Call {
        Object answer();
    }

    private static int wrong = 0;
    private static int asked = 0;
    private static String place = "";

    private Check() {
    }

    /** Names what the answers behind this belong to; it is told with those that are not due. */
    static void at(String where) {
        place = where.isEmpty() ? "" : where + "\n    ";
    }

    static void due(String what, Object got, Object want) {
        asked++;
        if (!want.equals(got)) {
            wrong++;
            System.out.println(place + what + " answered " + got + ", due is " + want);
        }
    }

    static void dueThrow(String what, Class<? extends RuntimeException> want, Call call) {
        due(what, thrown(call), want.getSimpleName());
    }

    /** The simple name of the exception that a call throws, or "nothing". */
    static String thrown(Call call) {
        try {
            call.answer();
            return "nothing";
        } catch (RuntimeException e) {
            return e.getClass().getSimpleName();
        }
    }

    static void end(String test) {
        System.out.println(test + ": " + asked + " answers, " + wrong + " of them not due");
        if (wrong != 0) {
            System.exit(1);
        }
    }
}
