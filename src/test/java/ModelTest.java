/** All promises: long runs of calls, ordinary and wrong ones, answered as the model answers them. */
public final class ModelTest {
    private static final int OBJECTS = 4000;
    private static final int CALLS = 512;
    private static final int[] EDGES = {Integer.MIN_VALUE, -1000001, -1000000, -2, -1, 0, 1, 2, 3, 4, 7, 8, 31, 32, 59,
        60, 79, 80, 126, 127, 1000000, 1000001, 1000000000, 1000000001, Integer.MAX_VALUE};

    private final AggregateRows x = new AggregateRows();
    private final Model model = new Model();
    /** How many letters a text may have, and how many different ones: small, so that terms come again. */
    private final int mostLetters;
    private final boolean numbersAlone;
    private final boolean farNumbers;
    private long seed;
    private int calls = 0;

    private ModelTest(int object) {
        seed = object * 7919L + 17;
        mostLetters = 1 + next(8);
        numbersAlone = next(3) == 0;
        farNumbers = next(3) == 0;
    }

    public static void main(String[] args) {
        for (int object = 0; object < OBJECTS; object++) {
            ModelTest test = new ModelTest(object);
            while (test.calls < CALLS) {
                test.call("object " + object + ", call " + test.calls + ": ");
            }
        }
        Check.end();
    }

    /** The same numbers in every run of the test: a step of a linear congruence. */
    private int next(int bound) {
        seed = seed * 6364136223846793005L + 1442695040888963407L;
        return (int) ((seed >>> 33) % bound);
    }

    private int edge() {
        return EDGES[next(EDGES.length)];
    }

    /** Mostly a number 0 .. bound - 1, now and then an edge. */
    private int mostly(int bound) {
        return next(25) == 0 ? edge() : next(Math.max(1, bound));
    }

    /** What calls behind the 512th one answer is free. */
    private void compare(String what, Check.Call due, Check.Call got) {
        if (calls < CALLS) {
            calls++;
            Check.same(what, Check.answerOf(due), Check.answerOf(got));
        }
    }

    private void call(String at) {
        int choice = next(40);
        if (choice < 6) {
            callTerm(at, !numbersAlone && next(3) == 0);
        } else if (choice < 14) {
            callRow(at);
        } else if (choice < 18) {
            callSetting(at, next(4));
        } else if (choice < 23) {
            int kind = mostly(8);
            boolean distinct = next(2) == 0;
            compare(at + "run(" + kind + ", " + distinct + ")",
                    () -> model.run(kind, distinct), () -> x.run(kind, distinct));
        } else {
            callResult(at, mostly(model.told(2)));
        }
    }

    private void callTerm(String at, boolean text) {
        if (text) {
            long letters = word();
            compare(at + "text(" + letters + ")", () -> model.text(letters), () -> x.text(letters));
        } else {
            int units = next(12) == 0 ? edge() : farNumbers ? next(2000001) - 1000000 : 10 * (next(9) - 4);
            int scale = mostly(4);
            compare(at + "number(" + units + ", " + scale + ")",
                    () -> model.number(units, scale), () -> x.number(units, scale));
        }
    }

    private long word() {
        long word = 0;
        int letters = next(mostLetters + 1);
        for (int place = 0; place < letters; place++) {
            word = word << 8 | (next(9) == 0 ? 0 : 'a' + next(3) * 12);
        }
        return next(20) == 0 ? word ^ (long) edge() << next(64) : word;
    }

    private void callRow(String at) {
        int part = mostly(3);
        int key = mostly(Math.min(7, model.told(0)));
        int value = next(6) == 0 ? AggregateRows.NONE : mostly(model.told(0));
        compare(at + "row(" + part + ", " + key + ", " + value + ")",
                () -> model.row(part, key, value), () -> x.row(part, key, value));
    }

    private void callSetting(String at, int which) {
        int how = mostly(3);
        int c = next(4) == 0 ? 0 : mostly(140);
        if (which == 0) {
            compare(at + "by(" + how + ")", () -> model.by(how), () -> x.by(how));
        } else if (which == 1) {
            compare(at + "separator(" + c + ")", () -> model.separator(c), () -> x.separator(c));
        } else if (which == 2) {
            compare(at + "own(" + how + ")", () -> model.own(how), () -> x.own(how));
        } else {
            compare(at + "told(" + how + ")", () -> model.told(how), () -> x.told(how));
        }
    }

    private void callResult(String at, int group) {
        String of = "(" + group + ")";
        compare(at + "key" + of, () -> model.key(group), () -> x.key(group));
        compare(at + "rows" + of, () -> model.rows(group), () -> x.rows(group));
        compare(at + "sort" + of, () -> model.sort(group), () -> x.sort(group));
        compare(at + "why" + of, () -> model.why(group), () -> x.why(group));
        compare(at + "term" + of, () -> model.term(group), () -> x.term(group));
        compare(at + "length" + of, () -> model.length(group), () -> x.length(group));
        int part = mostly(2);
        compare(at + "value(" + group + ", " + part + ")",
                () -> model.value(group, part), () -> x.value(group, part));
        int i = mostly(12);
        compare(at + "charAt(" + group + ", " + i + ")",
                () -> model.charAt(group, i), () -> x.charAt(group, i));
        callHaving(at, group);
    }

    private void callHaving(String at, int group) {
        int op = mostly(3);
        boolean near = next(2) == 0 && group >= 0 && group < model.told(2);
        long upper = near ? model.value(group, 0) : mostly(20) - 5;
        long lower = near ? model.value(group, 1) : mostly(20);
        compare(at + "having(" + group + ", " + op + ", " + upper + ", " + lower + ")",
                () -> model.having(group, op, upper, lower), () -> x.having(group, op, upper, lower));
    }
}
