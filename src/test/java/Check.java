/** Compares answers with those that are due, and ends a test. */
final class Check {
    interface Call {
        long answer();
    }

    private static int right = 0;
    private static int wrong = 0;
    private static String about = "";

    private Check() {
    }

    /** Names what the following checks are about; it is printed with each wrong one. */
    static void about(String words) {
        about = words.isEmpty() ? "" : "[" + words + "] ";
    }

    static int made() {
        return right + wrong;
    }

    static void fail(String what) {
        wrong++;
        System.out.println(about + what);
    }

    static void same(String what, long got, long due) {
        if (got == due) {
            right++;
        } else {
            fail(what + " answered " + got + ", due is " + due);
        }
    }

    static void same(String what, boolean got, boolean due) {
        same(what, got ? 1 : 0, due ? 1 : 0);
    }

    static void same(String what, String got, String due) {
        if (got.equals(due)) {
            right++;
        } else {
            fail(what + ": " + got + ", due is: " + due);
        }
    }

    static void noCell(String what, Call call) {
        throwing(what, call, "IndexOutOfBoundsException");
    }

    static void badArgument(String what, Call call) {
        throwing(what, call, "IllegalArgumentException");
    }

    static void badState(String what, Call call) {
        throwing(what, call, "IllegalStateException");
    }

    /** The exact class is due: the machine's own index exceptions are kinds of IndexOutOfBoundsException. */
    static void throwing(String what, Call call, String due) {
        same(what, outcome(call), "throws " + due);
    }

    /** What a call comes to, as a text. */
    static String outcome(Call call) {
        try {
            return "answers " + call.answer();
        } catch (RuntimeException e) {
            return "throws " + e.getClass().getSimpleName();
        }
    }

    static void end() {
        System.out.println(right + " answers as due, " + wrong + " not");
        if (wrong != 0 || right == 0) {
            System.exit(1);
        }
    }
}
