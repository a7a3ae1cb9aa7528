/** Promises 5 to 7: by, separator, own. */
public final class SettingsTest {
    public static void main(String[] args) {
        by();
        groupsByTerm();
        groupsByEqual();
        oneGroup();
        separator();
        separatorInJoin();
        own();
        Check.end();
    }

    private static void by() {
        AggregateRows x = new AggregateRows();
        Check.same("by was", 0, x.by(1));
        Check.same("by was", 1, x.by(2));
        Check.argument("by above", () -> x.by(3));
        Check.argument("by below", () -> x.by(-1));
        Check.argument("by least int", () -> x.by(Integer.MIN_VALUE));
        Check.same("by was not changed", 2, x.by(2));
        Check.same("by was", 2, x.by(0));
        Check.same("by was", 0, x.by(0));
    }

    private static AggregateRows keyed() {
        AggregateRows x = new AggregateRows();
        String[] keys = {"1", "1.0", "b", "1", "2.50", "2.5", "b", "-1", "ba"};
        for (int i = 0; i < keys.length; i++) {
            Sample.row(x, 0, keys[i], String.valueOf(1 << i));
        }
        return x;
    }

    private static String sums(AggregateRows x) {
        StringBuilder told = new StringBuilder();
        int groups = x.run(Sample.SUM, false);
        for (int group = 0; group < groups; group++) {
            told.append(x.key(group)).append(':').append(x.value(group, 0)).append('*')
                    .append(x.rows(group)).append(' ');
        }
        return told.toString();
    }

    private static void groupsByTerm() {
        AggregateRows x = keyed();
        String due = x.number(1, 0) + ":9*2 " + x.number(10, 1) + ":2*1 " + x.text('b') + ":68*2 "
                + x.number(250, 2) + ":16*1 " + x.number(25, 1) + ":32*1 " + x.number(-1, 0) + ":128*1 "
                + x.text(Sample.word("ba")) + ":256*1 ";
        Check.same("groups by terms", due, sums(x));
    }

    private static void groupsByEqual() {
        AggregateRows x = keyed();
        x.by(1);
        String due = x.number(1, 0) + ":11*3 " + x.text('b') + ":68*2 " + x.number(250, 2) + ":48*2 "
                + x.number(-1, 0) + ":128*1 " + x.text(Sample.word("ba")) + ":256*1 ";
        Check.same("groups by EQUAL keys", due, sums(x));
    }

    private static void oneGroup() {
        AggregateRows x = keyed();
        x.by(2);
        Check.same("all rows", x.number(1, 0) + ":511*9 ", sums(x));
        AggregateRows none = new AggregateRows();
        none.by(2);
        Check.same("also without rows", "-1:0*0 ", sums(none));
        none.by(1);
        Check.same("by EQUAL keys without rows", "", sums(none));
        none.by(0);
        Check.same("by terms without rows", "", sums(none));
    }

    private static void separator() {
        AggregateRows x = new AggregateRows();
        Check.same("separator was", 0, x.separator(32));
        Check.same("separator was", 32, x.separator(126));
        Check.argument("separator 31", () -> x.separator(31));
        Check.argument("separator 127", () -> x.separator(127));
        Check.argument("separator 1", () -> x.separator(1));
        Check.argument("separator -1", () -> x.separator(-1));
        Check.argument("separator 300", () -> x.separator(300));
        Check.argument("separator 65536", () -> x.separator(65536 + 44));
        Check.same("separator was not changed", 126, x.separator(0));
        Check.same("separator was", 0, x.separator(0));
    }

    private static void separatorInJoin() {
        AggregateRows x = Sample.of("a", "!", "b", "1.5");
        x.run(Sample.JOIN, false);
        Check.same("none at first", "'ab1.5'", Sample.tell(x, 0));
        x.separator(' ');
        x.run(Sample.JOIN, false);
        Check.same("between two, none for an ERROR", "'a b 1.5'", Sample.tell(x, 0));
        x.separator('~');
        x.run(Sample.JOIN, false);
        Check.same("another one", "'a~b~1.5'", Sample.tell(x, 0));
        x.separator(0);
        x.run(Sample.JOIN, false);
        Check.same("none again", "'ab1.5'", Sample.tell(x, 0));
        AggregateRows one = Sample.of("!", "a", "!");
        one.separator(',');
        one.run(Sample.JOIN, false);
        Check.same("none with one alone", "'a'", Sample.tell(one, 0));
    }

    private static void own() {
        AggregateRows x = Sample.of("4", "1", "3");
        x.run(Sample.OWN, false);
        Check.same("SPAN at first", "3/1", Sample.tell(x, 0));
        Check.same("own was", 0, x.own(1));
        x.run(Sample.OWN, false);
        Check.same("MIDDLE", "3/1 #3", Sample.tell(x, 0));
        Check.same("own was", 1, x.own(2));
        x.run(Sample.OWN, false);
        Check.same("SHARE", "8/3", Sample.tell(x, 0));
        Check.argument("own above", () -> x.own(3));
        Check.argument("own below", () -> x.own(-1));
        Check.argument("own greatest int", () -> x.own(Integer.MAX_VALUE));
        Check.same("own was not changed", 2, x.own(0));
        Check.same("own was", 0, x.own(0));
    }
}
