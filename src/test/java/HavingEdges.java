/** Boundary cases of promise 17: having. */
final class HavingEdges {
    private static final long FARTHEST = 1000000000;
    private static final long MOST = 1000000;

    private HavingEdges() {
    }

    static void all() {
        Sentences.holds(17, "there is no such group (of the latest run)", HavingEdges::groups);
        Sentences.holds(17, "(op = 0) below, (1) just, (2) above", HavingEdges::ops);
        Sentences.holds(17, "upper -1000000000 .. 1000000000", HavingEdges::uppers);
        Sentences.holds(17, "lower 1 .. 1000000", HavingEdges::lowers);
        Sentences.holds(17, "below, just, above upper / lower", HavingEdges::nextToABound);
        Sentences.holds(17, "Whether the RESULT is a number", HavingEdges::noNumbers);
        Sentences.holds(17, "Of several the first one that a call names", HavingEdges::noGroupBeforeNoBound);
    }

    private static AggregateRows sumOf(String... values) {
        AggregateRows x = Sample.of(values);
        x.run(Sample.SUM, false);
        return x;
    }

    /** 59 rows of a value and a last one. */
    private static AggregateRows sixty(int kind, String value, String last) {
        AggregateRows x = Sample.rowsOf(59, value, last);
        x.run(kind, false);
        return x;
    }

    private static void compare(AggregateRows x, long upper, long lower, String due) {
        String got = x.having(0, 0, upper, lower) ? "below" : "";
        got += x.having(0, 1, upper, lower) ? "just" : "";
        got += x.having(0, 2, upper, lower) ? "above" : "";
        Check.same(x.value(0, 0) + "/" + x.value(0, 1) + " and " + upper + "/" + lower, due, got);
    }

    private static void groups() {
        for (int op = 0; op <= 2; op++) {
            int which = op;
            for (int group : new int[] {-1, 3, 60, Integer.MIN_VALUE, Integer.MAX_VALUE}) {
                Refused.index("group " + group, Story::used, x -> x.having(group, which, 0, 1));
                Refused.index("group " + group, Story::full, x -> x.having(group, which, 0, 1));
            }
            Refused.index("group 0 before a run", AggregateRows::new, x -> x.having(0, which, 0, 1));
        }
        AggregateRows most = new AggregateRows();
        Sample.fillTerms(most);
        for (int n = 0; n < 60; n++) {
            most.row(0, n, n);
        }
        most.run(Sample.SUM, false);
        Check.same("the first of 60", true, most.having(0, 1, 0, 1));
        Check.same("the last of 60", true, most.having(59, 1, 59, 1));
        Check.index("no group 60", () -> most.having(60, 1, 0, 1));
    }

    private static void ops() {
        compare(sumOf("1"), 2, 1, "below");
        compare(sumOf("1"), 1, 1, "just");
        compare(sumOf("1"), 0, 1, "above");
        for (int op : new int[] {-1, 3, Integer.MIN_VALUE, Integer.MAX_VALUE}) {
            Refused.argument("op " + op + ", a number", Story::full, x -> x.having(0, op, 0, 1));
            Refused.argument("op " + op + ", nothing", Story::used, x -> x.having(2, op, 0, 1));
        }
    }

    private static void uppers() {
        compare(sumOf("0"), FARTHEST, 1, "below");
        compare(sumOf("0"), -FARTHEST, 1, "above");
        compare(sumOf("1000"), FARTHEST, MOST, "just");
        compare(sumOf("-1000"), -FARTHEST, MOST, "just");
        for (int op = 0; op <= 2; op++) {
            int which = op;
            for (long upper : new long[] {FARTHEST + 1, Integer.MAX_VALUE, 1L << 32, Long.MAX_VALUE}) {
                Refused.argument("upper " + upper, Story::full, x -> x.having(0, which, upper, 1));
                Refused.argument("upper " + -upper, Story::full, x -> x.having(0, which, -upper, 1));
                Refused.argument("upper " + upper + ", nothing", Story::used, x -> x.having(2, which, upper, MOST));
            }
            Refused.argument("the least long", Story::full, x -> x.having(0, which, Long.MIN_VALUE, 1));
        }
    }

    private static void lowers() {
        compare(sumOf("1"), 1, 1, "just");
        compare(sumOf("1"), MOST, MOST, "just");
        compare(sumOf("0.001"), 1, MOST, "above");
        compare(sumOf("0.001"), MOST / 1000, MOST, "just");
        for (int op = 0; op <= 2; op++) {
            int which = op;
            for (long lower : new long[] {0, -1, -MOST, MOST + 1, (1L << 32) + 1, Long.MIN_VALUE, Long.MAX_VALUE}) {
                Refused.argument("lower " + lower, Story::full, x -> x.having(0, which, 0, lower));
                Refused.argument("lower " + lower + ", nothing", Story::used, x -> x.having(2, which, FARTHEST, lower));
            }
        }
    }

    /** Far results, where products that do not fit an int, or quotients, would answer otherwise. */
    private static void nextToABound() {
        compare(sumOf(), 0, MOST, "just");
        compare(sumOf(), 1, MOST, "below");
        compare(sumOf(), -1, MOST, "above");
        AggregateRows greatest = sixty(Sample.SUM, "1000000", "1000000");
        compare(greatest, 60000000, 1, "just");
        compare(greatest, 59999999, 1, "above");
        compare(greatest, 60000001, 1, "below");
        compare(greatest, FARTHEST, 1, "below");
        compare(greatest, FARTHEST, 16, "below");
        compare(greatest, FARTHEST, 17, "above");
        compare(greatest, FARTHEST, MOST, "above");
        AggregateRows least = sixty(Sample.SUM, "-1000000", "-1000000");
        compare(least, -60000000, 1, "just");
        compare(least, -60000001, 1, "above");
        compare(least, -59999999, 1, "below");
        compare(least, -FARTHEST, 1, "above");
        compare(least, -FARTHEST, MOST, "below");
        AggregateRows smallest = sixty(Sample.MEAN, "0", "0.001");
        compare(smallest, 1, 60000, "just");
        compare(smallest, 1, 60001, "above");
        compare(smallest, 1, 59999, "below");
        compare(smallest, 16, MOST, "above");
        compare(smallest, 17, MOST, "below");
        AggregateRows far = sixty(Sample.MEAN, "1000000", "0.001");
        compare(far, 983333333, 1000, "above");
        compare(far, 983333334, 1000, "below");
        compare(far, FARTHEST, 1, "below");
        compare(far, FARTHEST, MOST, "above");
        AggregateRows third = sumOf("0.333");
        compare(third, 1, 3, "below");
        compare(third, 333000, MOST, "just");
    }

    private static AggregateRows ran(int kind, String... values) {
        AggregateRows x = Sample.of(values);
        x.run(kind, false);
        return x;
    }

    private static void noNumbers() {
        for (long upper : new long[] {-FARTHEST, -1, 0, 1, FARTHEST}) {
            for (long lower : new long[] {1, MOST}) {
                compare(ran(Sample.FIRST, "a"), upper, lower, "");
                compare(ran(Sample.JOIN, "0"), upper, lower, "");
                compare(ran(Sample.JOIN), upper, lower, "");
                compare(ran(Sample.SUM, "a", "1"), upper, lower, "");
                compare(ran(Sample.GREATEST), upper, lower, "");
            }
        }
        compare(ran(Sample.FIRST, "0"), 0, 1, "just");
        compare(ran(Sample.COUNT), 0, 1, "just");
    }

    private static void noGroupBeforeNoBound() {
        Refused.index("no group, no op", Story::used, x -> x.having(3, 3, 0, 1));
        Refused.index("no group, no upper", Story::used, x -> x.having(-1, 0, FARTHEST + 1, 1));
        Refused.index("no group, no lower", Story::full, x -> x.having(3, 0, 0, 0));
        Refused.index("nothing of all", AggregateRows::new, x -> x.having(0, -1, Long.MIN_VALUE, Long.MIN_VALUE));
        Refused.argument("a group, nothing of the others", Story::full, x -> x.having(0, -1, FARTHEST + 1, 0));
    }
}
