/** Boundary cases of promises 5 to 7: by, separator, own. */
final class SettingsEdges {
    private SettingsEdges() {
    }

    static void all() {
        Sentences.holds(5, "How groups are made, 0 .. 2", SettingsEdges::howGroupsAreMade);
        Sentences.holds(5, "how they were", SettingsEdges::howTheyWere);
        Sentences.holds(5, "0: rows whose keys are one term", SettingsEdges::byOneTerm);
        Sentences.holds(5, "1: whose keys are EQUAL", SettingsEdges::byEqualKeys);
        Sentences.holds(5, "2: all rows (one group, also without rows)", SettingsEdges::allRows);
        Sentences.holds(5, "numbered in the order of their first rows", SettingsEdges::orderOfGroups);

        Sentences.holds(6, "The SEPARATOR, 32 .. 126, or 0 for none", SettingsEdges::separators);
        Sentences.holds(6, "what it was", SettingsEdges::separatorBefore);
        Sentences.holds(6, "with the SEPARATOR between two (none at first)", SettingsEdges::betweenTwo);

        Sentences.holds(7, "The type of OWN, 0 .. 2", SettingsEdges::types);
        Sentences.holds(7, "what it was", SettingsEdges::typeBefore);
    }

    private static void howGroupsAreMade() {
        for (int how = 0; how <= 2; how++) {
            AggregateRows x = new AggregateRows();
            Check.same("by " + how, 0, x.by(how));
            Check.same("by " + how + " has been set", how, x.by(0));
        }
        for (int how : new int[] {-1, 3, Integer.MIN_VALUE, Integer.MAX_VALUE}) {
            Refused.argument("by " + how, x -> x.by(how));
        }
    }

    private static void howTheyWere() {
        AggregateRows x = new AggregateRows();
        int was = 0;
        for (int how : new int[] {0, 1, 1, 2, 2, 0, 2, 1, 0, 0}) {
            Check.argument("a refused one", () -> x.by(3));
            Check.same("by " + how, was, x.by(how));
            was = how;
        }
    }

    /** How many rows each group has, when these are the keys of the rows. */
    private static String groups(int how, String... keys) {
        AggregateRows x = new AggregateRows();
        for (String key : keys) {
            Sample.row(x, 0, key, "!");
        }
        x.by(how);
        return groupsOf(x);
    }

    private static String groupsOf(AggregateRows x) {
        StringBuilder told = new StringBuilder();
        int count = x.run(Sample.COUNT, false);
        for (int group = 0; group < count; group++) {
            told.append(x.rows(group)).append(' ');
        }
        return told.toString();
    }

    private static AggregateRows withKeys(int howMany) {
        AggregateRows x = new AggregateRows();
        Sample.fillTerms(x);
        for (int n = 0; n < 60; n++) {
            x.row(0, n % howMany, 0);
        }
        return x;
    }

    private static void byOneTerm() {
        Check.same("no rows, no group", "", groups(0));
        Check.same("one row", "1 ", groups(0, "0"));
        Check.same("EQUAL ones that are not one term", "1 1 1 1 ", groups(0, "0", "0.0", "0.00", "0.000"));
        Check.same("one term again", "2 1 ", groups(0, "0", "0.0", "0"));
        Check.same("one that begins another one", "1 2 ", groups(0, "a", "aa", "aa"));
        Check.same("60 rows of one key", 1, withKeys(1).run(Sample.COUNT, false));
        Check.same("60 rows of 59 keys", 59, withKeys(59).run(Sample.COUNT, false));
        Check.same("60 rows of 60 keys", 60, withKeys(60).run(Sample.COUNT, false));
    }

    private static void byEqualKeys() {
        Check.same("no rows, no group", "", groups(1));
        Check.same("one row", "1 ", groups(1, "0"));
        Check.same("0 of every scale", "4 ", groups(1, "0", "0.0", "0.00", "0.000"));
        Check.same("the farthest ones", "2 2 ", groups(1, "1000.000", "-1000.000", "-1000.0", "1000"));
        Check.same("a thousandth beside", "1 1 1 ", groups(1, "1", "1.001", "0.999"));
        Check.same("the same units", "1 1 1 1 ", groups(1, "1000", "100.0", "10.00", "1.000"));
        Check.same("texts", "1 2 1 ", groups(1, "a", "aa", "aa", "aaaaaaaa"));
        Check.same("a text and a number", "1 1 ", groups(1, "a", "0"));
        AggregateRows x = withKeys(60);
        x.by(1);
        Check.same("60 rows of 60 keys", 60, x.run(Sample.COUNT, false));
    }

    private static void allRows() {
        Check.same("without rows", "0 ", groups(2));
        Check.same("one row", "1 ", groups(2, "a"));
        Check.same("other keys", "3 ", groups(2, "a", "0", "1"));
        AggregateRows x = withKeys(60);
        x.by(2);
        Check.same("60 rows of 60 keys", "60 ", groupsOf(x));
        x.by(0);
        Check.same("by terms again", 60, x.run(Sample.COUNT, false));
        x.by(2);
        Check.same("as one again", 1, x.run(Sample.COUNT, false));
        for (int how = 0; how <= 2; how++) {
            rowsBehindAGroupWithoutRows(how);
        }
    }

    /** A group without rows has no key; nothing of that may be left when rows come. */
    private static void rowsBehindAGroupWithoutRows(int how) {
        AggregateRows x = new AggregateRows();
        x.by(2);
        Check.same("a group without rows", "0 ", groupsOf(x));
        Sample.row(x, 0, "5", "!");
        Sample.row(x, 0, "5.0", "!");
        x.by(how);
        Check.same("then two rows by " + how, how == 0 ? "1 1 " : "2 ", groupsOf(x));
        Check.same("the first key", 0, x.key(0));
    }

    private static void orderOfGroups() {
        AggregateRows x = new AggregateRows();
        Sample.row(x, 2, "c", "1");
        Sample.row(x, 1, "b", "1");
        Sample.row(x, 1, "c", "1");
        x.run(Sample.COUNT, false);
        Check.same("first by parts", x.text('b'), x.key(0));
        Sample.row(x, 0, "c", "!");
        x.run(Sample.COUNT, false);
        Check.same("an ERROR in part 0 is a first row", x.text('c'), x.key(0));
        Check.same("the others follow", x.text('b'), x.key(1));
        AggregateRows equal = new AggregateRows();
        Sample.row(equal, 1, "5", "1");
        Sample.row(equal, 0, "7", "1");
        Sample.row(equal, 0, "5.0", "1");
        equal.by(1);
        Check.same("groups by EQUAL keys", 2, equal.run(Sample.COUNT, false));
        Check.same("first by parts, not as they came", equal.number(7, 0), equal.key(0));
        Check.same("the key of the first row by parts", equal.number(50, 1), equal.key(1));
    }

    private static void separators() {
        for (int c = -300; c <= 700; c++) {
            boolean taken = c == 0 || c >= 32 && c <= 126;
            AggregateRows x = new AggregateRows();
            x.separator('#');
            int which = c;
            Check.same("separator " + c, taken ? "35" : "throws.IllegalArgumentException",
                    Check.answerOf(() -> x.separator(which)));
            Check.same("what it is behind " + c, taken ? c : 35, x.separator(0));
        }
        for (int c : new int[] {-1, 1, 31, 127, 65536, 65536 + 44, Integer.MIN_VALUE, Integer.MAX_VALUE}) {
            Refused.argument("separator " + c, x -> x.separator(c));
        }
    }

    private static void separatorBefore() {
        AggregateRows x = new AggregateRows();
        int was = 0;
        for (int c : new int[] {0, 32, 32, 126, 0, 0, 126, 32, 0}) {
            Check.argument("a refused one", () -> x.separator(31));
            Check.argument("another refused one", () -> x.separator(127));
            Check.same("separator " + c, was, x.separator(c));
            was = c;
        }
    }

    private static String joined(int c, String... values) {
        AggregateRows x = Sample.of(values);
        x.separator(c);
        x.run(Sample.JOIN, false);
        return Sample.tell(x, 0);
    }

    private static void betweenTwo() {
        for (int c : new int[] {32, 33, 125, 126}) {
            String between = String.valueOf((char) c);
            Check.same("none", "''", joined(c));
            Check.same("ERRORS alone", "''", joined(c, "!", "!"));
            Check.same("one", "'a'", joined(c, "a"));
            Check.same("one among ERRORS", "'a'", joined(c, "!", "a", "!"));
            Check.same("two", "'a" + between + "-0.5'", joined(c, "a", "-0.5"));
            Check.same("two with ERRORS", "'a" + between + "b'", joined(c, "!", "a", "!", "b", "!"));
            Check.same("three", "'a" + between + "a" + between + "7'", joined(c, "a", "a", "7"));
        }
        Check.same("no separator", "'aab'", joined(0, "a", "a", "b"));
        AggregateRows x = Sample.of("a", "b");
        x.run(Sample.JOIN, false);
        Check.same("none at first", "'ab'", Sample.tell(x, 0));
    }

    private static void types() {
        for (int type = 0; type <= 2; type++) {
            AggregateRows x = new AggregateRows();
            Check.same("type " + type, 0, x.own(type));
            Check.same("type " + type + " has been set", type, x.own(0));
        }
        for (int type : new int[] {-1, 3, Integer.MIN_VALUE, Integer.MAX_VALUE}) {
            Refused.argument("type " + type, x -> x.own(type));
        }
        Check.same("type 0", "3/1", Sample.ownResult(0, false, "4", "1", "3"));
        Check.same("type 1", "3/1 #3", Sample.ownResult(1, false, "4", "1", "3"));
        Check.same("type 2", "8/3", Sample.ownResult(2, false, "4", "1", "3"));
    }

    private static void typeBefore() {
        AggregateRows x = new AggregateRows();
        int was = 0;
        for (int type : new int[] {0, 1, 1, 2, 2, 0, 2, 1, 0, 0}) {
            Check.argument("a refused one", () -> x.own(-1));
            Check.same("own " + type, was, x.own(type));
            was = type;
        }
    }
}
