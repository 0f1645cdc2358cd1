/** Compares answers with those that are due, and ends a test's program with 1 if one differed. */
final class Check {
    /** A call that may throw. */
    interface Call {
        Object run();
    }

    private static int wrong = 0;
    private static int made = 0;
    private static String subject = "";

    private Check() {
    }

    /** What the checks from here on are about; told with those that are wrong. */
    static void about(String what) {
        subject = what.isEmpty() ? "" : what + "\n  ";
    }

    static void same(String what, Object got, Object due) {
        made++;
        if (!String.valueOf(got).equals(String.valueOf(due))) {
            wrong++;
            System.out.println(subject + what + ": answered " + got + ", due is " + due);
        }
    }

    /** What a call answers, or "throws." and the exact name of what it throws. */
    static String outcome(Call call) {
        try {
            return String.valueOf(call.run());
        } catch (RuntimeException e) {
            return "throws." + e.getClass().getSimpleName();
        }
    }

    static void answers(String what, Object due, Call call) {
        same(what, outcome(call), due);
    }

    static void fails(String what, Class<? extends RuntimeException> due, Call call) {
        same(what, outcome(call), "throws." + due.getSimpleName());
    }

    static void end() {
        System.out.println(made + " answers looked at, " + wrong + " wrong");
        if (wrong != 0 || made == 0) {
            System.exit(1);
        }
    }
}
