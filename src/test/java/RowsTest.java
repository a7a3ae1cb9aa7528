/** Promise 4: row, and how rows stand. */
public final class RowsTest {
    public static void main(String[] args) {
        rows();
        order();
        wrongRows();
        mostRows();
        Check.end();
    }

    private static void rows() {
        AggregateRows x = new AggregateRows();
        x.number(5, 0);
        Check.same("first row", 1, x.row(0, 0, 0));
        Check.same("the same row again", 2, x.row(0, 0, 0));
        Check.same("part 1", 3, x.row(1, 0, 0));
        Check.same("part 2", 4, x.row(2, 0, 0));
        Check.same("an ERROR", 5, x.row(0, 0, AggregateRows.NONE));
        Check.same("rows", 5, x.told(1));
        Check.same("terms", 1, x.told(0));
    }

    private static void order() {
        AggregateRows x = new AggregateRows();
        x.by(2);
        Sample.row(x, 2, "k", "e");
        Sample.row(x, 0, "k", "a");
        Sample.row(x, 1, "k", "c");
        Sample.row(x, 0, "k", "b");
        Sample.row(x, 2, "k", "f");
        Sample.row(x, 1, "k", "d");
        x.run(Sample.JOIN, false);
        Check.same("by parts, in a part as they came", "'abcdef'", Sample.tell(x, 0));
        AggregateRows y = new AggregateRows();
        Sample.row(y, 1, "late", "1");
        Sample.row(y, 0, "early", "2");
        Sample.row(y, 0, "late", "3");
        y.run(Sample.SUM, false);
        Check.same("groups in the order of their first rows", y.text(Sample.word("early")), y.key(0));
        Check.same("keys go with their rows", "2/1", Sample.tell(y, 0));
        Check.same("and their values", "4/1", Sample.tell(y, 1));
    }

    private static void wrongRows() {
        AggregateRows x = new AggregateRows();
        Check.argument("no terms yet", () -> x.row(0, 0, AggregateRows.NONE));
        x.number(1, 0);
        x.number(2, 0);
        Check.argument("part above", () -> x.row(3, 0, 0));
        Check.argument("part below", () -> x.row(-1, 0, 0));
        Check.argument("key above", () -> x.row(0, 2, 0));
        Check.argument("a key is no ERROR", () -> x.row(0, AggregateRows.NONE, 0));
        Check.argument("key least int", () -> x.row(0, Integer.MIN_VALUE, 0));
        Check.argument("value above", () -> x.row(0, 0, 2));
        Check.argument("value below", () -> x.row(0, 0, -2));
        Check.argument("value greatest int", () -> x.row(0, 0, Integer.MAX_VALUE));
        Check.same("no rows of wrong ones", 0, x.told(1));
        Check.same("no groups of wrong ones", 0, x.run(Sample.COUNT, false));
        Check.same("the last term serves", 1, x.row(2, 1, 1));
    }

    private static void mostRows() {
        AggregateRows x = new AggregateRows();
        x.number(1, 0);
        for (int n = 1; n <= 60; n++) {
            Check.same("row " + n, n, x.row(n % 3, 0, 0));
        }
        Check.state("row 61", () -> x.row(0, 0, 0));
        Check.state("row 61, an ERROR", () -> x.row(2, 0, AggregateRows.NONE));
        Check.argument("wrong part before too many", () -> x.row(3, 0, 0));
        Check.argument("wrong key before too many", () -> x.row(0, 1, 0));
        Check.argument("wrong value before too many", () -> x.row(0, 0, 1));
        Check.same("still 60", 60, x.told(1));
        x.run(Sample.SUM, false);
        Check.same("sum of 60", "60/1", Sample.tell(x, 0));
    }
}
