/** Promise 17: having. */
public final class HavingTest {
    public static void main(String[] args) {
        bounds();
        farBounds();
        noNumbers();
        wrongBounds();
        Check.end();
    }

    private static void compare(String what, AggregateRows x, long upper, long lower, String due) {
        String got = x.having(0, 0, upper, lower) ? "below" : "";
        got += x.having(0, 1, upper, lower) ? "just" : "";
        got += x.having(0, 2, upper, lower) ? "above" : "";
        Check.same(what, due, got);
    }

    private static AggregateRows ran(int kind, String... values) {
        AggregateRows x = Sample.of(values);
        x.run(kind, false);
        return x;
    }

    private static void bounds() {
        AggregateRows third = ran(Sample.MEAN, "1", "0", "0");
        compare("1/3 and 1/3", third, 1, 3, "just");
        compare("1/3 and 2/6", third, 2, 6, "just");
        compare("1/3 and 333333/1000000", third, 333333, 1000000, "above");
        compare("1/3 and 333334/1000000", third, 333334, 1000000, "below");
        compare("1/3 and 0", third, 0, 1, "above");
        AggregateRows below = ran(Sample.LEAST, "-2.5", "7");
        compare("-5/2 and -5/2", below, -5, 2, "just");
        compare("-5/2 and -3", below, -3, 1, "above");
        compare("-5/2 and -2", below, -2, 1, "below");
        compare("-5/2 and 5/2", below, 5, 2, "below");
        AggregateRows count = ran(Sample.COUNT, "a", "b");
        compare("2 and 2", count, 2, 1, "just");
        AggregateRows none = ran(Sample.SUM);
        compare("0 and 0", none, 0, 1000000, "just");
        compare("0 and -1", none, -1, 1000000, "above");
    }

    private static void farBounds() {
        AggregateRows x = new AggregateRows();
        x.by(2);
        for (int n = 0; n < 60; n++) {
            Sample.row(x, 0, "k", n % 2 == 0 ? "1000000" : "999.999");
        }
        x.run(Sample.SUM, false);
        compare("a far sum and a far bound", x, 1000000000, 1, "below");
        compare("a far sum and a small bound", x, 1000000000, 1000000, "above");
        compare("a far sum and a low bound", x, -1000000000, 1, "above");
        x.run(Sample.MEAN, false);
        compare("a far mean and a bound just below", x, 500499999, 1000, "above");
        compare("a far mean and a bound just above", x, 500500000, 1000, "below");
        AggregateRows most = new AggregateRows();
        for (int n = 0; n < 60; n++) {
            Sample.row(most, 0, "k", "1000000");
        }
        most.run(Sample.SUM, false);
        compare("the greatest sum", most, 60000000, 1, "just");
        compare("the greatest sum and lower", most, 60000001, 1, "below");
        compare("the greatest sum and a small bound", most, 1, 1000000, "above");
    }

    private static void noNumbers() {
        compare("a text", ran(Sample.FIRST, "a"), 0, 1, "");
        compare("a joined number", ran(Sample.JOIN, "0"), 0, 1, "");
        compare("an ERROR", ran(Sample.SUM, "a"), 0, 1, "");
        compare("nothing", ran(Sample.LEAST), 0, 1, "");
    }

    private static void wrongBounds() {
        wrongBounds(ran(Sample.SUM, "1"));
        wrongBounds(ran(Sample.SUM, "a"));
        AggregateRows x = ran(Sample.SUM, "1");
        Check.index("no group before no op", () -> x.having(1, 9, 0, 0));
        Check.same("edge below", true, x.having(0, 2, -1000000000, 1000000));
        Check.same("edge above", true, x.having(0, 0, 1000000000, 1));
        Check.same("nothing has changed", "1/1", Sample.tell(x, 0));
    }

    private static void wrongBounds(AggregateRows x) {
        Check.argument("op above", () -> x.having(0, 3, 0, 1));
        Check.argument("op below", () -> x.having(0, -1, 0, 1));
        Check.argument("upper above", () -> x.having(0, 0, 1000000001, 1));
        Check.argument("upper below", () -> x.having(0, 0, -1000000001, 1));
        Check.argument("upper least long", () -> x.having(0, 1, Long.MIN_VALUE, 1));
        Check.argument("upper that is 0 as an int", () -> x.having(0, 1, 1L << 32, 1));
        Check.argument("lower 0", () -> x.having(0, 0, 0, 0));
        Check.argument("lower below", () -> x.having(0, 0, 0, -1));
        Check.argument("lower above", () -> x.having(0, 0, 0, 1000001));
        Check.argument("lower that is 1 as an int", () -> x.having(0, 1, 0, (1L << 32) + 1));
    }
}
