/** Counts and prints what is not as it is due; a test ends by end(). */
final class Check {
    interface Call {
        Object answer();
    }

    private static int wrong = 0;
    /** What the checks are about now, printed in front of each that is wrong. */
    private static String about = "";

    private Check() {
    }

    static void about(String subject) {
        about = subject;
    }

    static void same(String what, Object due, Object got) {
        if (!due.equals(got)) {
            wrong++;
            System.out.println(about + what + ": answered " + got + ", due is " + due);
        }
    }

    static void argument(String what, Call call) {
        same(what, "throws.IllegalArgumentException", answerOf(call));
    }

    static void state(String what, Call call) {
        same(what, "throws.IllegalStateException", answerOf(call));
    }

    static void index(String what, Call call) {
        same(what, "throws.IndexOutOfBoundsException", answerOf(call));
    }

    /** The answer as a text; for a call that throws the very class of the exception. */
    static String answerOf(Call call) {
        try {
            return String.valueOf(call.answer());
        } catch (RuntimeException e) {
            return "throws." + e.getClass().getSimpleName();
        }
    }

    static void end() {
        if (wrong > 0) {
            System.out.println(wrong + " answers are not as due");
            System.exit(1);
        }
    }
}
