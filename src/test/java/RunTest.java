/** Promise 8: run, with every kind's result. */
public final class RunTest {
    public static void main(String[] args) {
        count();
        sum();
        mean();
        leastAndGreatest();
        first();
        join();
        tooLongJoins();
        span();
        middle();
        share();
        ofNone();
        staysTillTheNextRun();
        wrongRuns();
        howManyGroups();
        Check.end();
    }

    private static void count() {
        Check.same("count", "4/1", Sample.result(Sample.COUNT, false, "1", "a", "1.0", "1"));
        Check.same("count without ERRORS", "2/1", Sample.result(Sample.COUNT, false, "!", "a", "!", "a"));
        Check.same("distinct count", "3/1", Sample.result(Sample.COUNT, true, "1", "a", "1.0", "1", "ab", "a"));
        Check.same("count of ERRORS alone", "0/1", Sample.result(Sample.COUNT, true, "!", "!"));
    }

    private static void sum() {
        Check.same("sum", "3331/1000", Sample.result(Sample.SUM, false, "1", "1.1", "1.11", "0.121"));
        Check.same("sum to a whole one", "2/1", Sample.result(Sample.SUM, false, "0.5", "1.500"));
        Check.same("sum below 0", "-5/2", Sample.result(Sample.SUM, false, "-3.5", "1"));
        Check.same("sum to 0", "0/1", Sample.result(Sample.SUM, false, "-0.25", "0.250"));
        Check.same("sum without ERRORS", "7/1", Sample.result(Sample.SUM, false, "!", "3", "!", "4"));
        Check.same("distinct sum", "3/1", Sample.result(Sample.SUM, true, "1", "1.0", "2", "1.00", "2"));
        Check.same("sum with a text", "error 1", Sample.result(Sample.SUM, false, "1", "a", "2"));
        Check.same("sum with a text last", "error 1", Sample.result(Sample.SUM, true, "1", "2", "a"));
        AggregateRows x = new AggregateRows();
        for (int n = 0; n < 60; n++) {
            Sample.row(x, n % 3, "k", "-1000000");
        }
        x.run(Sample.SUM, false);
        Check.same("sum of 60 greatest", "-60000000/1", Sample.tell(x, 0));
    }

    private static void mean() {
        Check.same("mean", "5/3", Sample.result(Sample.MEAN, false, "1", "2", "2"));
        Check.same("mean of fractions", "1/8", Sample.result(Sample.MEAN, false, "0.25", "0.000"));
        Check.same("mean below 0", "-3/2", Sample.result(Sample.MEAN, false, "-1", "-2"));
        Check.same("mean without ERRORS", "2/1", Sample.result(Sample.MEAN, false, "!", "1", "3", "!"));
        Check.same("distinct mean", "3/2", Sample.result(Sample.MEAN, true, "1", "2", "2.0"));
        Check.same("mean with a text", "error 1", Sample.result(Sample.MEAN, false, "a"));
        Check.same("a small mean", "1/7000", Sample.result(Sample.MEAN, false, "0.001", "0", "0", "0", "0", "0", "0"));
    }

    private static void leastAndGreatest() {
        Check.same("least", "-1/1 #3", Sample.result(Sample.LEAST, false, "2", "1.5", "-1", "b"));
        Check.same("greatest", "2/1 #1", Sample.result(Sample.GREATEST, false, "2", "1.5", "-1", "-20"));
        Check.same("by values, not units", "9/1000 #2", Sample.result(Sample.LEAST, false, "1", "0.009"));
        Check.same("texts behind numbers", "'a' #1", Sample.result(Sample.GREATEST, false, "a", "1000000"));
        Check.same("numbers before texts", "1000000/1 #2", Sample.result(Sample.LEAST, false, "a", "1000000"));
        Check.same("least by letters", "'ab' #2", Sample.result(Sample.LEAST, false, "b", "ab", "abc", "ac"));
        Check.same("one that begins another one", "'a' #2", Sample.result(Sample.LEAST, false, "aaaaaaaa", "a"));
        Check.same("greatest by letters", "'ba' #2", Sample.result(Sample.GREATEST, false, "b", "ba", "azzzzzzz"));
        Check.same("least of EQUAL ones", "1/1 #2", Sample.result(Sample.LEAST, false, "2", "1.0", "1", "1.00"));
        Check.same("greatest of EQUAL ones", "2/1 #2", Sample.result(Sample.GREATEST, false, "1", "2.0", "2"));
        Check.same("distinct least", "1/1 #2", Sample.result(Sample.LEAST, true, "2", "1.0", "1"));
        textTermsInTwoGroups();
        Check.same("least without ERRORS", "3/1 #1", Sample.result(Sample.LEAST, false, "!", "3"));
        AggregateRows x = new AggregateRows();
        Sample.row(x, 1, "k", "1");
        Sample.row(x, 0, "k", "1.0");
        x.run(Sample.LEAST, false);
        Check.same("the first one by parts", "1/1 #2", Sample.tell(x, 0));
    }

    private static void textTermsInTwoGroups() {
        AggregateRows x = new AggregateRows();
        Sample.row(x, 0, "k", "uv");
        Sample.row(x, 0, "l", "xyz");
        x.run(Sample.LEAST, false);
        Check.same("a text term", "'uv' #1", Sample.tell(x, 0));
        Check.same("another one in another group", "'xyz' #3", Sample.tell(x, 1));
    }

    private static void first() {
        Check.same("first", "3/2 #1", Sample.result(Sample.FIRST, false, "1.5", "a"));
        Check.same("first text", "'a' #1", Sample.result(Sample.FIRST, true, "a", "1"));
        Check.same("first that is no ERROR", "'b' #1", Sample.result(Sample.FIRST, false, "!", "!", "b", "a"));
        AggregateRows x = new AggregateRows();
        Sample.row(x, 2, "k", "c");
        Sample.row(x, 1, "k", "b");
        Sample.row(x, 0, "k", "!");
        x.run(Sample.FIRST, false);
        Check.same("first by parts", "'b' #2", Sample.tell(x, 0));
    }

    private static void join() {
        Check.same("join", "'ab-1.50c'", Sample.result(Sample.JOIN, false, "ab", "-1.50", "c"));
        Check.same("distinct join", "'1.02b'", Sample.result(Sample.JOIN, true, "1.0", "2", "1", "b", "2.00", "b"));
        Check.same("join without ERRORS", "'ab'", Sample.result(Sample.JOIN, false, "!", "a", "!", "b", "!"));
        String[] numbers = {"0", "0.0", "0.00", "0.000", "7", "-7", "-0.7", "0.07", "-0.007", "10", "1.0", "100.0",
            "1000000", "-1000000", "-100000.0", "10000.00", "-1000.000", "123.456", "-99999.9", "0.120"};
        for (String number : numbers) {
            Check.same("text of " + number, "'" + number + "'", Sample.result(Sample.JOIN, false, number));
        }
    }

    private static AggregateRows eights(int howMany, String... more) {
        return Sample.rowsOf(howMany, "abcdefgh", more);
    }

    private static void tooLongJoins() {
        AggregateRows x = eights(10);
        x.run(Sample.JOIN, false);
        Check.same("80 characters", "'" + "abcdefgh".repeat(10) + "'", Sample.tell(x, 0));
        x.separator(',');
        x.run(Sample.JOIN, false);
        Check.same("80 and separators", "error 2", Sample.tell(x, 0));
        x.run(Sample.JOIN, true);
        Check.same("distinct ones fit", "'abcdefgh'", Sample.tell(x, 0));
        AggregateRows y = eights(10, "a");
        y.run(Sample.JOIN, false);
        Check.same("81 characters", "error 2", Sample.tell(y, 0));
        AggregateRows z = eights(8, "abcdefgh");
        z.separator(' ');
        z.run(Sample.JOIN, false);
        Check.same("80 with separators", 80, z.length(0));
        AggregateRows all = eights(60);
        all.run(Sample.JOIN, false);
        Check.same("far too long", "error 2", Sample.tell(all, 0));
        AggregateRows mixed = eights(11);
        Sample.row(mixed, 0, "other", "ok");
        Sample.row(mixed, 1, "other", "1.5");
        mixed.run(Sample.JOIN, false);
        Check.same("too long in its group", "error 2", Sample.tell(mixed, 0));
        Check.same("in its group alone", "'ok1.5'", Sample.tell(mixed, 1));
        longestTextsInManyGroups();
    }

    private static AggregateRows longestTexts() {
        AggregateRows x = new AggregateRows();
        x.separator('|');
        for (int n = 0; n < 60; n++) {
            Sample.row(x, n % 3, String.valueOf(n / 8), "-1000.000");
        }
        x.run(Sample.JOIN, false);
        return x;
    }

    /** Every row gives its longest text and a separator, none of which may be lost. */
    private static void longestTextsInManyGroups() {
        for (int group = 0; group < 8; group++) {
            // An object for each, as all the characters together are more than 512 calls.
            AggregateRows x = longestTexts();
            int values = x.rows(group);
            String due = "'-1000.000" + "|-1000.000".repeat(values - 1) + "'";
            Check.same("long texts of group " + group, due, Sample.tell(x, group));
        }
    }

    private static void span() {
        Check.same("span", "27/4", Sample.ownResult(Sample.SPAN, false, "1", "-3.25", "3.500"));
        Check.same("span of one", "0/1", Sample.ownResult(Sample.SPAN, false, "5"));
        Check.same("span below 0", "3/1", Sample.ownResult(Sample.SPAN, false, "-5", "-2"));
        Check.same("span of EQUAL ones", "0/1", Sample.ownResult(Sample.SPAN, true, "5", "5.0"));
        Check.same("span with a text", "error 1", Sample.ownResult(Sample.SPAN, false, "5", "a"));
        Check.same("greatest span", "2000000/1", Sample.ownResult(Sample.SPAN, false, "1000000", "-1000000"));
    }

    private static void middle() {
        Check.same("middle of three", "2/1 #3", Sample.ownResult(Sample.MIDDLE, false, "3", "1", "2"));
        Check.same("middle of four", "2/1 #4", Sample.ownResult(Sample.MIDDLE, false, "3", "1", "4", "2"));
        Check.same("middle of two", "1/1 #2", Sample.ownResult(Sample.MIDDLE, false, "3", "1"));
        Check.same("middle of one", "3/1 #1", Sample.ownResult(Sample.MIDDLE, false, "!", "3"));
        Check.same("EQUAL ones as they stand", "1/1 #2", Sample.ownResult(Sample.MIDDLE, false, "1", "1.0", "1.00"));
        Check.same("the former of EQUAL ones", "1/1 #2", Sample.ownResult(Sample.MIDDLE, false, "5", "1.0", "1", "0"));
        Check.same("the latter of EQUAL ones", "1/1 #3", Sample.ownResult(Sample.MIDDLE, false, "5", "1.0", "1", "9"));
        Check.same("distinct middle", "2/1 #2", Sample.ownResult(Sample.MIDDLE, true, "1", "2", "1", "1", "3"));
        Check.same("middle with a text", "error 1", Sample.ownResult(Sample.MIDDLE, false, "1", "a", "3"));
    }

    private static void share() {
        Check.same("share", "3/4", Sample.ownResult(Sample.SHARE, false, "1", "-7", "0", "2"));
        Check.same("share of none above 0", "0/1", Sample.ownResult(Sample.SHARE, false, "-1", "0"));
        Check.same("distinct share", "1/2", Sample.ownResult(Sample.SHARE, true, "1", "-7", "1.0", "-7"));
        Check.same("share with a text", "error 1", Sample.ownResult(Sample.SHARE, false, "1", "a"));
        Check.same("share with ERRORS", "1/1", Sample.ownResult(Sample.SHARE, false, "!", "1", "!"));
        Check.same("share of ERRORS alone", "error 3", Sample.ownResult(Sample.SHARE, false, "!"));
    }

    private static void ofNone() {
        String[] due = {"0/1", "0/1", "0/1", "nothing", "nothing", "nothing", "''", "0/1"};
        for (int kind = 0; kind < due.length; kind++) {
            Check.same("kind " + kind + " without rows", due[kind], Sample.result(kind, false));
            Check.same("kind " + kind + " of ERRORS", due[kind], Sample.result(kind, true, "!", "!"));
        }
        Check.same("middle of none", "nothing", Sample.ownResult(Sample.MIDDLE, false));
        Check.same("share of none", "error 3", Sample.ownResult(Sample.SHARE, false));
    }

    private static void staysTillTheNextRun() {
        AggregateRows x = Sample.of("a", "b");
        x.separator('-');
        x.run(Sample.JOIN, false);
        x.separator('+');
        x.by(0);
        x.own(2);
        Sample.row(x, 0, "other", "c");
        Sample.row(x, 0, "key", "d");
        Check.same("the text stays", "'a-b'", Sample.tell(x, 0));
        Check.same("the rows stay", 2, x.rows(0));
        Check.same("the groups stay", 1, x.told(2));
        Check.index("no new group", () -> x.key(1));
        Check.same("a new run tells anew", 2, x.run(Sample.JOIN, false));
        Check.same("a new text", "'a+b+d'", Sample.tell(x, 0));
        Check.same("new rows", 3, x.rows(0));
        Check.same("a new group", "'c'", Sample.tell(x, 1));
        AggregateRows y = new AggregateRows();
        Sample.row(y, 1, "k", "5");
        y.run(Sample.LEAST, false);
        Sample.row(y, 0, "j", "4");
        Check.same("the key stays", 0, y.key(0));
        Check.same("the result stays", "5/1 #1", Sample.tell(y, 0));
        y.run(Sample.LEAST, false);
        Check.same("the key of the new first row", 2, y.key(0));
        y.by(2);
        y.run(Sample.COUNT, false);
        Check.index("fewer groups than before", () -> y.sort(1));
    }

    private static void wrongRuns() {
        AggregateRows x = Sample.of("a", "b");
        x.run(Sample.JOIN, false);
        Check.argument("kind above", () -> x.run(8, false));
        Check.argument("kind below", () -> x.run(-1, true));
        Check.argument("kind least int", () -> x.run(Integer.MIN_VALUE, true));
        Check.same("the result stays", "'ab'", Sample.tell(x, 0));
        Check.same("the groups stay", 1, x.told(2));
        AggregateRows none = new AggregateRows();
        none.by(2);
        Check.argument("wrong first run", () -> none.run(8, false));
        Check.same("is no run", 0, none.told(2));
    }

    private static AggregateRows sixtyGroups() {
        AggregateRows x = new AggregateRows();
        Sample.fillTerms(x);
        for (int n = 0; n < 60; n++) {
            x.row(2 - n % 3, n, 59 - n);
        }
        return x;
    }

    private static void howManyGroups() {
        for (int group = 0; group < 60; group++) {
            AggregateRows x = sixtyGroups();
            Check.same("sixty groups", 60, x.run(Sample.GREATEST, true));
            int due = 59 - x.key(group);
            Check.same("group " + group, due + "/1 #" + due, Sample.tell(x, group));
        }
        AggregateRows x = sixtyGroups();
        for (int kind = 0; kind < 8; kind++) {
            Check.same("sixty groups of kind " + kind, 60, x.run(kind, false));
            Check.same("a result of the last one", true, x.sort(59) < 2);
        }
        Check.index("no group 60", () -> x.key(60));
        x.by(2);
        Check.same("one group", 1, x.run(Sample.COUNT, true));
    }
}
