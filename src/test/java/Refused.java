/** Calls that are refused: which exception each throws, and that it changes nothing that any call tells later. */
final class Refused {
    interface CallOn {
        Object of(AggregateRows x);
    }

    private static final String ARGUMENT = "throws.IllegalArgumentException";
    private static final String STATE = "throws.IllegalStateException";
    private static final String INDEX = "throws.IndexOutOfBoundsException";

    private Refused() {
    }

    static void argument(String what, Story.Maker maker, CallOn call) {
        refused(what, ARGUMENT, maker, call);
    }

    /** Refused in a new object, in one that has been used and in one that has no room left. */
    static void argument(String what, CallOn call) {
        argument(what + ", new", AggregateRows::new, call);
        argument(what + ", used", Story::used, call);
        argument(what + ", full", Story::full, call);
    }

    static void state(String what, Story.Maker maker, CallOn call) {
        refused(what, STATE, maker, call);
    }

    static void index(String what, Story.Maker maker, CallOn call) {
        refused(what, INDEX, maker, call);
    }

    private static void refused(String what, String due, Story.Maker maker, CallOn call) {
        Check.same(what, due, Check.answerOf(() -> call.of(maker.make())));
        String untouched = Story.of(maker);
        String behindIt = Story.of(() -> {
            AggregateRows x = maker.make();
            Check.answerOf(() -> call.of(x));
            return x;
        });
        Check.same(what + ", changes nothing", "", firstDifference(untouched, behindIt));
    }

    /** The first line of the one story that the other one has otherwise; nothing, if there is none. */
    private static String firstDifference(String untouched, String behindIt) {
        String[] due = untouched.split("\n");
        String[] got = behindIt.split("\n");
        for (int i = 0; i < Math.min(due.length, got.length); i++) {
            if (!due[i].equals(got[i])) {
                return "line " + i + " was \"" + due[i] + "\", is \"" + got[i] + "\"";
            }
        }
        return due.length == got.length ? "" : due.length + " lines were told, now " + got.length;
    }
}
