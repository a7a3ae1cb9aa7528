/** Boundary cases of promise 8: run, with every kind's result. */
final class RunEdges {
    private static final int KINDS = 8;

    private RunEdges() {
    }

    static void all() {
        Sentences.holds(8, "A RUN of a KIND 0 .. 7", RunEdges::kinds);
        Sentences.holds(8, "over all groups: how many there are", RunEdges::howManyGroups);
        Sentences.holds(8, "What it tells stays till the next one", RunEdges::staysTillTheNextOne);
        Sentences.holds(8, "over a group's values that are no ERROR, in their order", RunEdges::errorsLeftOut);
        Sentences.holds(8, "DISTINCT: of EQUAL ones over the first one alone", RunEdges::distinct);
        Sentences.holds(8, "0 COUNT: how many", RunEdges::count);
        Sentences.holds(8, "1 SUM: of all numbers; 0 of none", RunEdges::sum);
        Sentences.holds(8, "2 MEAN: that by how many; 0 of none", RunEdges::mean);
        Sentences.holds(8, "3 LEAST, 4 GREATEST: by ORDER, of EQUAL ones the first one", RunEdges::leastAndGreatest);
        Sentences.holds(8, "5 FIRST", RunEdges::first);
        Sentences.holds(8, "3 to 5: a term; nothing, if there is none", RunEdges::nothing);
        Sentences.holds(8, "3 to 5: a term (a text in each of 60 groups)", RunEdges::textsOfSixtyGroups);
        Sentences.holds(8, "6 JOIN: all texts (of numbers, too)", RunEdges::join);
        Sentences.holds(8, "6 JOIN: all texts (60 longest ones, in several groups)", RunEdges::longestTexts);
        Sentences.holds(8, "0 SPAN: the greatest less the least number; 0 of none", RunEdges::span);
        Sentences.holds(8, "1 MIDDLE: the one with (n - 1) / 2, rounded down, before it", RunEdges::middle);
        Sentences.holds(8, "EQUAL ones as they stand", RunEdges::middleOfEqualOnes);
        Sentences.holds(8, "2 SHARE: those above 0 by how many numbers there are (also 0 and below)", RunEdges::share);
        Sentences.holds(8, "1 there is a TEXT in 1, 2, 7", RunEdges::textAmongNumbers);
        Sentences.holds(8, "2 the text of 6 has more than 80 characters", RunEdges::tooLong);
        Sentences.holds(8, "3 SHARE of none", RunEdges::shareOfNone);
    }

    private static void kinds() {
        for (int kind = 0; kind < KINDS; kind++) {
            Check.same("kind " + kind, 1, Sample.of("1").run(kind, false));
            Check.same("kind " + kind + ", distinct", 1, Sample.of("1").run(kind, true));
        }
        for (int kind : new int[] {-1, 8, Integer.MIN_VALUE, Integer.MAX_VALUE}) {
            Refused.argument("kind " + kind, x -> x.run(kind, false));
            Refused.argument("kind " + kind + ", distinct", x -> x.run(kind, true));
        }
    }

    private static void howManyGroups() {
        for (int kind = 0; kind < KINDS; kind++) {
            AggregateRows none = new AggregateRows();
            Check.same("no rows by terms", 0, none.run(kind, false));
            none.by(1);
            Check.same("no rows by EQUAL keys", 0, none.run(kind, true));
            none.by(2);
            Check.same("no rows in one group", 1, none.run(kind, false));
            AggregateRows most = new AggregateRows();
            Sample.fillTerms(most);
            for (int n = 0; n < 60; n++) {
                most.row(0, n, 59 - n);
            }
            Check.same("60 groups", 60, most.run(kind, false));
            Check.same("a result of the first one", true, most.sort(0) < 2);
            Check.same("a result of the last one", true, most.sort(59) < 2);
        }
        AggregateRows error = new AggregateRows();
        Sample.row(error, 0, "k", "!");
        Check.same("a group of an ERROR alone", 1, error.run(Sample.COUNT, false));
    }

    private static void staysTillTheNextOne() {
        for (int kind = 0; kind < KINDS; kind++) {
            AggregateRows x = Story.used();
            x.run(kind, false);
            String before = Story.results(x);
            int terms = x.told(0);
            x.by(2);
            x.separator(0);
            x.own(0);
            x.row(0, 0, 0);
            x.row(0, terms - 1, AggregateRows.NONE);
            Check.argument("a refused run", () -> x.run(8, false));
            Check.same("rows are told at once", 8, x.told(1));
            Check.same("what was told of kind " + kind, before, Story.results(x).replace("told 1 8", "told 1 6"));
        }
        AggregateRows fewer = Story.used();
        Check.same("groups", 3, fewer.run(Sample.COUNT, false));
        fewer.by(2);
        Check.same("still there", 3, fewer.told(2));
        Check.same("the last one, too", 1, fewer.rows(2));
        fewer.run(Sample.COUNT, false);
        Check.same("till the next one", 1, fewer.told(2));
        Check.index("gone with it", () -> fewer.rows(1));
        Check.index("the last one, too", () -> fewer.rows(2));
        AggregateRows none = new AggregateRows();
        none.by(2);
        none.run(Sample.SUM, false);
        none.by(0);
        none.run(Sample.SUM, false);
        Check.same("no group stays where the next one has none", 0, none.told(2));
    }

    private static void errorsLeftOut() {
        String[] due = {"2/1", "3/1", "3/2", "1/1 #2", "2/1 #1", "2/1 #1", "'21'", "1/1"};
        for (int kind = 0; kind < KINDS; kind++) {
            Check.same("none is an ERROR, kind " + kind, due[kind], Sample.result(kind, false, "2", "1"));
            Check.same("ERRORS at the ends, kind " + kind, due[kind], Sample.result(kind, false, "!", "2", "1", "!"));
            Check.same("an ERROR between, kind " + kind, due[kind], Sample.result(kind, true, "2", "!", "!", "1"));
        }
        ofNone("all are ERRORS", "!", "!", "!");
        AggregateRows most = Sample.rowsOf(60, "!");
        most.run(Sample.COUNT, false);
        Check.same("60 ERRORS", "0/1", Sample.tell(most, 0));
    }

    private static void ofNone(String what, String... values) {
        String[] due = {"0/1", "0/1", "0/1", "nothing", "nothing", "nothing", "''", "0/1"};
        String[] ownDue = {"0/1", "nothing", "error 3"};
        for (int kind = 0; kind < KINDS; kind++) {
            Check.same(what + ", kind " + kind, due[kind], Sample.result(kind, false, values));
            Check.same(what + ", distinct, kind " + kind, due[kind], Sample.result(kind, true, values));
        }
        for (int type = 0; type <= 2; type++) {
            Check.same(what + ", type " + type, ownDue[type], Sample.ownResult(type, false, values));
            Check.same(what + ", distinct, type " + type, ownDue[type], Sample.ownResult(type, true, values));
        }
    }

    private static void distinct() {
        ofNone("no values");
        Check.same("one", "'7'", Sample.result(Sample.JOIN, true, "7"));
        Check.same("all EQUAL, not one term", "'0.0'", Sample.result(Sample.JOIN, true, "0.0", "0", "0.000", "0.00"));
        Check.same("all one term", "'ab'", Sample.result(Sample.JOIN, true, "ab", "ab", "ab"));
        Check.same("none EQUAL", "'1-110a'", Sample.result(Sample.JOIN, true, "1", "-1", "10", "a"));
        Check.same("a thousandth beside", "'11.001'", Sample.result(Sample.JOIN, true, "1", "1.001", "1.000"));
        Check.same("one that begins another one", "'aaa'", Sample.result(Sample.JOIN, true, "a", "aa", "a"));
        Check.same("the first one behind ERRORS", "'1.0'", Sample.result(Sample.JOIN, true, "!", "1.0", "!", "1"));
        AggregateRows parts = new AggregateRows();
        Sample.row(parts, 2, "k", "5");
        Sample.row(parts, 1, "k", "5.0");
        Sample.row(parts, 0, "k", "5.00");
        parts.run(Sample.JOIN, true);
        Check.same("the first one by parts, over all parts", "'5.00'", Sample.tell(parts, 0));
        AggregateRows groups = new AggregateRows();
        Sample.row(groups, 0, "k", "5");
        Sample.row(groups, 0, "l", "5");
        groups.run(Sample.COUNT, true);
        Check.same("each group for itself", "1/1 1/1", Sample.tell(groups, 0) + " " + Sample.tell(groups, 1));
        AggregateRows most = sixty(Sample.COUNT, "1", true);
        Check.same("60 EQUAL ones", "1/1", Sample.tell(most, 0));
        Check.same("all the rows are there", 60, most.rows(0));
        Check.same("60 others", "60/1", Sample.tell(zeroToFiftyNine(Sample.COUNT, true), 0));
    }

    /** 60 rows of one value in one group, run. */
    private static AggregateRows sixty(int kind, String value, boolean distinct) {
        AggregateRows x = Sample.rowsOf(60, value);
        x.run(kind, distinct);
        return x;
    }

    /** The values 59 .. 0 in one group, run; each number is the term of its own number. */
    private static AggregateRows zeroToFiftyNine(int kind, boolean distinct) {
        AggregateRows x = new AggregateRows();
        Sample.fillTerms(x);
        for (int n = 59; n >= 0; n--) {
            x.row(0, 0, n);
        }
        x.run(kind, distinct);
        return x;
    }

    private static void count() {
        Check.same("none", "0/1", Sample.result(Sample.COUNT, false));
        Check.same("one", "1/1", Sample.result(Sample.COUNT, false, "a"));
        Check.same("60", "60/1", Sample.tell(sixty(Sample.COUNT, "a", false), 0));
        Check.same("numbers and texts", "3/1", Sample.result(Sample.COUNT, false, "a", "1", "1.0"));
    }

    private static void sum() {
        Check.same("none", "0/1", Sample.result(Sample.SUM, false));
        Check.same("one", "-1/1000", Sample.result(Sample.SUM, false, "-0.001"));
        Check.same("60 greatest ones", "60000000/1", Sample.tell(sixty(Sample.SUM, "1000000", false), 0));
        Check.same("60 least ones", "-60000000/1", Sample.tell(sixty(Sample.SUM, "-1000000", false), 0));
        Check.same("60 smallest ones", "3/50", Sample.tell(sixty(Sample.SUM, "0.001", false), 0));
        Check.same("greatest and least", "0/1", Sample.result(Sample.SUM, false, "1000000", "-1000000"));
        Check.same("greatest and smallest", "1000000001/1000", Sample.result(Sample.SUM, false, "1000000", "0.001"));
        Check.same("EQUAL ones, distinct", "1/1", Sample.result(Sample.SUM, true, "1", "1.0"));
    }

    private static void mean() {
        Check.same("none", "0/1", Sample.result(Sample.MEAN, false));
        Check.same("one", "-1/1000", Sample.result(Sample.MEAN, false, "-0.001"));
        Check.same("60 greatest ones", "1000000/1", Sample.tell(sixty(Sample.MEAN, "1000000", false), 0));
        Check.same("60 least ones", "-1000000/1", Sample.tell(sixty(Sample.MEAN, "-1000000", false), 0));
        Check.same("0 of some", "0/1", Sample.result(Sample.MEAN, false, "1", "-1.0"));
        Check.same("rows that are ERRORS do not count", "3/1", Sample.result(Sample.MEAN, false, "!", "3", "!"));
        Check.same("by how many distinct ones", "2/1", Sample.result(Sample.MEAN, true, "1", "1", "1.0", "3"));
        AggregateRows smallest = new AggregateRows();
        for (int n = 0; n < 60; n++) {
            Sample.row(smallest, 0, "k", n == 30 ? "-0.001" : "0");
        }
        smallest.run(Sample.MEAN, false);
        Check.same("the greatest lower number", "-1/60000", Sample.tell(smallest, 0));
    }

    private static void leastAndGreatest() {
        for (int kind : new int[] {Sample.LEAST, Sample.GREATEST}) {
            Check.same("one number", "0/1 #1", Sample.result(kind, false, "0"));
            Check.same("one text", "'zzzzzzzz' #1", Sample.result(kind, false, "zzzzzzzz"));
            Check.same("all EQUAL", "0/1 #1", Sample.result(kind, false, "0.00", "0", "0.000", "0.0"));
            Check.same("all EQUAL, distinct", "0/1 #1", Sample.result(kind, true, "0.00", "0", "0.000", "0.0"));
            Check.same("the farthest ones", kind == Sample.LEAST ? "-1000000/1 #2" : "1000000/1 #1",
                    Sample.result(kind, false, "1000000", "-1000000"));
            Check.same("EQUAL ones behind others", kind == Sample.LEAST ? "-2/1 #3" : "2/1 #2",
                    Sample.result(kind, false, "1", "2.0", "-2.0", "2", "-2"));
        }
        Check.same("the greatest number, the least text", "1000000/1 #2",
                Sample.result(Sample.LEAST, false, "a", "1000000"));
        Check.same("the least text, the greatest number", "'a' #1",
                Sample.result(Sample.GREATEST, false, "a", "1000000"));
        Check.same("the least of 60, last", "0/1 #0", Sample.tell(zeroToFiftyNine(Sample.LEAST, false), 0));
        Check.same("the greatest of 60, first", "59/1 #59", Sample.tell(zeroToFiftyNine(Sample.GREATEST, false), 0));
    }

    private static void first() {
        Check.same("one", "'a' #1", Sample.result(Sample.FIRST, false, "a"));
        Check.same("behind ERRORS", "0/1 #1", Sample.result(Sample.FIRST, false, "!", "!", "0.000", "a"));
        Check.same("of 60", "59/1 #59", Sample.tell(zeroToFiftyNine(Sample.FIRST, true), 0));
        AggregateRows x = Sample.rowsOf(59, "!", "b");
        x.run(Sample.FIRST, false);
        Check.same("behind 59 ERRORS", "'b' #1", Sample.tell(x, 0));
    }

    private static void nothing() {
        for (int kind = Sample.LEAST; kind <= Sample.FIRST; kind++) {
            Check.same("no rows", "nothing", Sample.result(kind, false));
            Check.same("ERRORS alone", "nothing", Sample.result(kind, true, "!", "!"));
            AggregateRows x = new AggregateRows();
            Sample.row(x, 0, "k", "!");
            Sample.row(x, 0, "l", "1");
            x.run(kind, false);
            Check.same("nothing in the one group", "nothing", Sample.tell(x, 0));
            Check.same("a term in the other one", "1/1 #2", Sample.tell(x, 1));
        }
    }

    private static void join() {
        Check.same("none", "''", Sample.result(Sample.JOIN, false));
        Check.same("ERRORS alone", "''", Sample.result(Sample.JOIN, false, "!", "!"));
        Check.same("the shortest text", "'a'", Sample.result(Sample.JOIN, false, "a"));
        Check.same("the longest text", "'zyxwvuts'", Sample.result(Sample.JOIN, false, "zyxwvuts"));
        Check.same("the shortest number", "'0'", Sample.result(Sample.JOIN, false, "0"));
        Check.same("the longest number", "'-1000.000'", Sample.result(Sample.JOIN, false, "-1000.000"));
        Check.same("both", "'a-0.50b0'", Sample.result(Sample.JOIN, false, "a", "-0.50", "b", "0"));
        Check.same("60 shortest ones", "'" + "a".repeat(60) + "'", Sample.tell(sixty(Sample.JOIN, "a", false), 0));
    }

    private static void textsOfSixtyGroups() {
        String[] texts = new String[60];
        AggregateRows x = new AggregateRows();
        for (int n = 0; n < 60; n++) {
            texts[n] = "abcdef" + (char) ('a' + n / 8) + (char) ('a' + n % 8);
            Sample.row(x, 0, texts[n], texts[n]);
        }
        x.run(Sample.GREATEST, false);
        for (int group = 0; group < 60; group += 59) {
            Check.same("group " + group, "'" + texts[group] + "' #" + group, Sample.tell(x, group));
        }
        for (int group = 0; group < 60; group++) {
            Check.same("length in group " + group, 8, x.length(group));
            Check.same("last letter in group " + group, (int) texts[group].charAt(7), x.charAt(group, 7));
        }
    }

    /** Seven groups of eight and one of four rows: no join has more than 80 characters, all have 592. */
    private static void longestTexts() {
        for (int group = 0; group < 8; group++) {
            AggregateRows x = new AggregateRows();
            x.separator('~');
            for (int n = 0; n < 60; n++) {
                Sample.row(x, 0, String.valueOf(n / 8), "-1000.000");
            }
            Check.same("groups", 8, x.run(Sample.JOIN, false));
            int rows = group < 7 ? 8 : 4;
            Check.same("group " + group, "'" + "-1000.000~".repeat(rows - 1) + "-1000.000'", Sample.tell(x, group));
        }
    }

    private static void span() {
        Check.same("none", "0/1", Sample.ownResult(Sample.SPAN, false));
        Check.same("one", "0/1", Sample.ownResult(Sample.SPAN, false, "-1000000"));
        Check.same("all EQUAL", "0/1", Sample.ownResult(Sample.SPAN, false, "7", "7.0", "7.000"));
        Check.same("the widest", "2000000/1", Sample.ownResult(Sample.SPAN, false, "-1000000", "1000000"));
        Check.same("the smallest", "1/1000", Sample.ownResult(Sample.SPAN, false, "1", "1.001", "1.0"));
        Check.same("above 0 alone", "1/2", Sample.ownResult(Sample.SPAN, false, "2.5", "2"));
        Check.same("below 0 alone", "1/2", Sample.ownResult(Sample.SPAN, true, "-2.5", "-2", "-2.0"));
    }

    /** The values n - 1 .. 0: (n - 1) / 2 of them, rounded down, are before the number of that value. */
    private static void middle() {
        Check.same("none", "nothing", Sample.ownResult(Sample.MIDDLE, false));
        Check.same("ERRORS alone", "nothing", Sample.ownResult(Sample.MIDDLE, false, "!"));
        for (int n = 1; n <= 60; n++) {
            AggregateRows x = new AggregateRows();
            Sample.fillTerms(x);
            for (int value = n - 1; value >= 0; value--) {
                x.row(value % 3, 0, value);
            }
            x.own(Sample.MIDDLE);
            x.run(Sample.OWN, false);
            int due = (n - 1) / 2;
            Check.same("middle of " + n, due + "/1 #" + due, Sample.tell(x, 0));
        }
        Check.same("distinct: three are left", "2/1 #2",
                Sample.ownResult(Sample.MIDDLE, true, "1", "2", "1", "1.0", "3"));
    }

    private static void middleOfEqualOnes() {
        Check.same("two", "5/1 #1", Sample.ownResult(Sample.MIDDLE, false, "5.0", "5"));
        Check.same("three", "5/1 #2", Sample.ownResult(Sample.MIDDLE, false, "5.0", "5", "5.00"));
        Check.same("four", "5/1 #2", Sample.ownResult(Sample.MIDDLE, false, "5.0", "5", "5.00", "5.000"));
        Check.same("a lesser one behind", "5/1 #1", Sample.ownResult(Sample.MIDDLE, false, "5.0", "5", "4"));
        Check.same("a greater one before", "5/1 #3", Sample.ownResult(Sample.MIDDLE, false, "6", "5.0", "5"));
        Check.same("distinct", "5/1 #1", Sample.ownResult(Sample.MIDDLE, true, "5.0", "5", "5.00"));
        AggregateRows x = new AggregateRows();
        Sample.row(x, 2, "k", "5");
        Sample.row(x, 1, "k", "5.0");
        Sample.row(x, 0, "k", "5.00");
        x.own(Sample.MIDDLE);
        x.run(Sample.OWN, false);
        Check.same("as they stand by parts", "5/1 #2", Sample.tell(x, 0));
    }

    private static void share() {
        Check.same("one above 0", "1/1000", Sample.ownResult(Sample.SHARE, false, "0.001"));
        Check.same("one of 0", "0/1", Sample.ownResult(Sample.SHARE, false, "0.000"));
        Check.same("one below 0", "0/1", Sample.ownResult(Sample.SHARE, false, "-0.001"));
        Check.same("0 and below count", "1/3000", Sample.ownResult(Sample.SHARE, false, "0.001", "0", "-0.001"));
        Check.same("the farthest ones", "500000/1", Sample.ownResult(Sample.SHARE, false, "1000000", "-1000000"));
        Check.same("ERRORS do not count", "1/2", Sample.ownResult(Sample.SHARE, false, "!", "1", "!", "-1"));
        Check.same("distinct", "1/3", Sample.ownResult(Sample.SHARE, true, "1", "1.0", "0", "0.0", "-1", "-1"));
        AggregateRows x = sixty(Sample.COUNT, "1000000", false);
        x.own(Sample.SHARE);
        x.run(Sample.OWN, false);
        Check.same("60 greatest ones", "1000000/1", Sample.tell(x, 0));
    }

    private static void textAmongNumbers() {
        String[] due = {"2/1", "error 1", "error 1", "0/1 #2", "'a' #1", "'a' #1", "'a0'", "error 1"};
        String[] dueOfOne = {"1/1", "error 1", "error 1", "'a' #1", "'a' #1", "'a' #1", "'a'", "error 1"};
        for (int kind = 0; kind < KINDS; kind++) {
            Check.same("a text and a number, kind " + kind, due[kind], Sample.result(kind, false, "a", "0"));
            Check.same("a text alone, kind " + kind, dueOfOne[kind], Sample.result(kind, false, "a"));
            Check.same("a text among ERRORS, kind " + kind, dueOfOne[kind], Sample.result(kind, true, "!", "a", "!"));
        }
        for (int type = 0; type <= 2; type++) {
            Check.same("a text alone, type " + type, "error 1", Sample.ownResult(type, false, "a"));
            Check.same("a text first, type " + type, "error 1", Sample.ownResult(type, false, "a", "1", "2"));
            Check.same("a text last, type " + type, "error 1", Sample.ownResult(type, true, "1", "2", "a"));
        }
        AggregateRows keys = new AggregateRows();
        Sample.row(keys, 0, "a", "1");
        keys.run(Sample.SUM, false);
        Check.same("a key is no value", "1/1", Sample.tell(keys, 0));
        AggregateRows last = Sample.rowsOf(59, "1", "z");
        last.run(Sample.MEAN, false);
        Check.same("a text at the end of 60", "error 1", Sample.tell(last, 0));
    }

    private static String joined(int separator, int howMany, String value, String... more) {
        AggregateRows x = Sample.rowsOf(howMany, value, more);
        x.separator(separator);
        x.run(Sample.JOIN, false);
        return Sample.tell(x, 0);
    }

    private static void tooLong() {
        String eight = "abcdefgh";
        Check.same("79", "'" + eight.repeat(9) + "abcdefg'", joined(0, 9, eight, "abcdefg"));
        Check.same("80", "'" + eight.repeat(10) + "'", joined(0, 10, eight));
        Check.same("81", "error 2", joined(0, 10, eight, "a"));
        Check.same("80 and an ERROR", "'" + eight.repeat(10) + "'", joined(0, 10, eight, "!"));
        Check.same("80 with separators", "'" + (eight + ' ').repeat(8) + eight + "'", joined(' ', 9, eight));
        Check.same("81 with separators", "error 2", joined('~', 8, eight, "1000000", "0"));
        Check.same("80 and a separator and a letter", "error 2", joined(',', 9, eight, "a"));
        Check.same("80 of numbers", "'" + "-1000.000".repeat(8) + "-1000.00'", joined(0, 8, "-1000.000", "-1000.00"));
        Check.same("81 of numbers", "error 2", joined(0, 9, "-1000.000"));
        Check.same("80 of 40 short ones", "'" + "a,".repeat(39) + "bc'", joined(',', 39, "a", "bc"));
        Check.same("81 of 41 short ones", "error 2", joined(',', 41, "a"));
        Check.same("60 longest ones", "error 2", joined('|', 60, "-1000.000"));
        AggregateRows two = new AggregateRows();
        for (int n = 0; n < 20; n++) {
            Sample.row(two, n % 3, n % 2 == 0 ? "k" : "l", eight);
        }
        Sample.row(two, 0, "l", "a");
        two.run(Sample.JOIN, false);
        Check.same("80 in the one group", "'" + eight.repeat(10) + "'", Sample.tell(two, 0));
        Check.same("81 in the other one", "error 2", Sample.tell(two, 1));
        two.run(Sample.JOIN, true);
        Check.same("few enough, distinct", "'" + eight + "a'", Sample.tell(two, 1));
    }

    private static void shareOfNone() {
        Check.same("no rows", "error 3", Sample.ownResult(Sample.SHARE, false));
        Check.same("ERRORS alone", "error 3", Sample.ownResult(Sample.SHARE, true, "!", "!"));
        Check.same("one number", "0/1", Sample.ownResult(Sample.SHARE, false, "0"));
        Check.same("one text", "error 1", Sample.ownResult(Sample.SHARE, false, "a"));
        Check.same("SPAN of none is no ERROR", "0/1", Sample.ownResult(Sample.SPAN, false));
        Check.same("MIDDLE of none is no ERROR", "nothing", Sample.ownResult(Sample.MIDDLE, false));
    }
}
