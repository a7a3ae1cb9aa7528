/** Promises 9 to 16 and 18: what key, rows, sort, why, value, term, length, charAt and told answer. */
public final class ResultsTest {
    public static void main(String[] args) {
        keys();
        rows();
        sorts();
        reasons();
        values();
        terms();
        lengths();
        characters();
        told();
        noSuchGroups();
        Check.end();
    }

    /** Three groups: key a with 1.50 and an ERROR, key b with the text xyz, key c with an ERROR alone. */
    private static AggregateRows three(int kind) {
        AggregateRows x = new AggregateRows();
        Sample.row(x, 0, "a", "1.50");
        Sample.row(x, 0, "b", "xyz");
        Sample.row(x, 0, "c", "!");
        Sample.row(x, 0, "a", "!");
        x.run(kind, false);
        return x;
    }

    private static void keys() {
        AggregateRows x = three(Sample.COUNT);
        Check.same("key of a", x.text('a'), x.key(0));
        Check.same("key of b", x.text('b'), x.key(1));
        Check.same("key of c, whose first row is an ERROR", x.text('c'), x.key(2));
        AggregateRows equal = new AggregateRows();
        equal.by(1);
        Sample.row(equal, 1, "2", "1");
        Sample.row(equal, 0, "2.0", "!");
        equal.run(Sample.COUNT, false);
        Check.same("key of the first row", equal.number(20, 1), equal.key(0));
        AggregateRows none = new AggregateRows();
        none.by(2);
        none.run(Sample.COUNT, false);
        Check.same("NONE without rows", AggregateRows.NONE, none.key(0));
    }

    private static void rows() {
        AggregateRows x = three(Sample.COUNT);
        Check.same("rows with an ERROR", 2, x.rows(0));
        Check.same("one row", 1, x.rows(1));
        Check.same("an ERROR alone", 1, x.rows(2));
        AggregateRows y = Sample.of("1", "1", "!", "1.0");
        y.run(Sample.COUNT, true);
        Check.same("rows also of a distinct run", 4, y.rows(0));
        AggregateRows none = Sample.of();
        none.run(Sample.COUNT, false);
        Check.same("no rows", 0, none.rows(0));
    }

    private static void sorts() {
        AggregateRows x = three(Sample.LEAST);
        Check.same("a number", 0, x.sort(0));
        Check.same("a text", 1, x.sort(1));
        Check.same("nothing", 3, x.sort(2));
        AggregateRows y = three(Sample.SUM);
        Check.same("a number", 0, y.sort(0));
        Check.same("an ERROR", 2, y.sort(1));
        Check.same("0 of none", 0, y.sort(2));
        AggregateRows z = three(Sample.JOIN);
        Check.same("a number's text", 1, z.sort(0));
        Check.same("an empty text", 1, z.sort(2));
    }

    private static void reasons() {
        AggregateRows x = three(Sample.SUM);
        Check.same("no ERROR", 0, x.why(0));
        Check.same("a text in a sum", 1, x.why(1));
        Check.same("nothing is no ERROR", 0, three(Sample.LEAST).why(2));
        x.own(Sample.SHARE);
        x.run(Sample.OWN, false);
        Check.same("a text in a share", 1, x.why(1));
        Check.same("a share of none", 3, x.why(2));
        AggregateRows y = new AggregateRows();
        for (int n = 0; n < 11; n++) {
            Sample.row(y, 0, "k", "abcdefgh");
        }
        y.run(Sample.JOIN, false);
        Check.same("too long", 2, y.why(0));
        y.run(Sample.COUNT, false);
        Check.same("gone with the next run", 0, y.why(0));
    }

    private static void values() {
        AggregateRows x = three(Sample.LEAST);
        Check.same("upper", 3L, x.value(0, 0));
        Check.same("lower", 2L, x.value(0, 1));
        Check.same("upper of a text", 0L, x.value(1, 0));
        Check.same("lower of a text", 1L, x.value(1, 1));
        Check.same("upper of nothing", 0L, x.value(2, 0));
        Check.same("lower of nothing", 1L, x.value(2, 1));
        AggregateRows y = three(Sample.SUM);
        Check.same("upper of an ERROR", 0L, y.value(1, 0));
        Check.same("lower of an ERROR", 1L, y.value(1, 1));
        y.run(Sample.JOIN, false);
        Check.same("upper gone with the next run", 0L, y.value(0, 0));
        Check.same("lower gone with the next run", 1L, y.value(0, 1));
        AggregateRows below = Sample.of("-0.750", "0");
        below.run(Sample.MEAN, false);
        Check.same("upper below 0", -3L, below.value(0, 0));
        Check.same("lower stays above 0", 8L, below.value(0, 1));
        Check.argument("part above", () -> x.value(0, 2));
        Check.argument("part below", () -> x.value(0, -1));
        Check.argument("part above of a text", () -> x.value(1, 2));
        Check.index("no group before no part", () -> x.value(3, 2));
    }

    private static void terms() {
        AggregateRows x = three(Sample.FIRST);
        Check.same("term of a number", x.number(150, 2), x.term(0));
        Check.same("term of a text", x.text(Sample.word("xyz")), x.term(1));
        Check.same("term of nothing", AggregateRows.NONE, x.term(2));
        int[] without = {Sample.COUNT, Sample.SUM, Sample.MEAN, Sample.JOIN, Sample.OWN};
        for (int kind : without) {
            x.run(kind, false);
            for (int group = 0; group < 3; group++) {
                Check.same("no term of kind " + kind, AggregateRows.NONE, x.term(group));
            }
        }
        x.own(Sample.MIDDLE);
        x.run(Sample.OWN, false);
        Check.same("term of MIDDLE", x.number(150, 2), x.term(0));
        Check.same("term of an ERROR", AggregateRows.NONE, x.term(1));
    }

    private static void lengths() {
        AggregateRows x = three(Sample.GREATEST);
        Check.same("length of a number", 0, x.length(0));
        Check.same("length of a text", 3, x.length(1));
        Check.same("length of nothing", 0, x.length(2));
        AggregateRows y = three(Sample.JOIN);
        Check.same("length of a number's text", 4, y.length(0));
        Check.same("length of an empty text", 0, y.length(2));
        y.run(Sample.SUM, false);
        Check.same("length of an ERROR", 0, y.length(1));
    }

    private static void characters() {
        AggregateRows x = three(Sample.JOIN);
        Check.same("1 of 1.50", (int) '1', x.charAt(0, 0));
        Check.same(". of 1.50", (int) '.', x.charAt(0, 1));
        Check.same("0 of 1.50", (int) '0', x.charAt(0, 3));
        Check.same("x of xyz", (int) 'x', x.charAt(1, 0));
        Check.same("z of xyz", (int) 'z', x.charAt(1, 2));
        Check.index("behind the end", () -> x.charAt(0, 4));
        Check.index("before the start", () -> x.charAt(1, -1));
        Check.index("of an empty text", () -> x.charAt(2, 0));
        Check.index("greatest int", () -> x.charAt(0, Integer.MAX_VALUE));
        Check.index("least int", () -> x.charAt(1, Integer.MIN_VALUE));
        AggregateRows y = three(Sample.LEAST);
        Check.index("of a number", () -> y.charAt(0, 0));
        Check.same("of a text term", (int) 'y', y.charAt(1, 1));
        Check.index("of nothing", () -> y.charAt(2, 0));
        y.run(Sample.SUM, false);
        Check.index("of an ERROR", () -> y.charAt(1, 0));
    }

    private static void told() {
        AggregateRows x = three(Sample.COUNT);
        Check.same("terms", 5, x.told(0));
        Check.same("rows", 4, x.told(1));
        Check.same("groups", 3, x.told(2));
        Sample.row(x, 0, "d", "1");
        Check.same("more terms", 7, x.told(0));
        Check.same("more rows", 5, x.told(1));
        Check.same("groups of the latest run", 3, x.told(2));
        x.by(2);
        Check.same("groups stay with by", 3, x.told(2));
        x.run(Sample.COUNT, false);
        Check.same("groups of the new run", 1, x.told(2));
        Check.argument("what above", () -> x.told(3));
        Check.argument("what below", () -> x.told(-1));
        Check.argument("what least int", () -> x.told(Integer.MIN_VALUE));
    }

    private static void noSuchGroups() {
        AggregateRows x = three(Sample.JOIN);
        noSuchGroup(x, 3);
        noSuchGroup(x, 60);
        noSuchGroup(x, -1);
        noSuchGroup(x, Integer.MAX_VALUE);
        noSuchGroup(x, Integer.MIN_VALUE);
        noSuchGroup(new AggregateRows(), 0);
        Check.same("nothing has changed", "'xyz'", Sample.tell(x, 1));
    }

    private static void noSuchGroup(AggregateRows x, int group) {
        Check.index("key of " + group, () -> x.key(group));
        Check.index("rows of " + group, () -> x.rows(group));
        Check.index("sort of " + group, () -> x.sort(group));
        Check.index("why of " + group, () -> x.why(group));
        Check.index("value of " + group, () -> x.value(group, 0));
        Check.index("term of " + group, () -> x.term(group));
        Check.index("length of " + group, () -> x.length(group));
        Check.index("charAt of " + group, () -> x.charAt(group, 0));
        Check.index("having of " + group, () -> x.having(group, 0, 0, 1));
    }
}
