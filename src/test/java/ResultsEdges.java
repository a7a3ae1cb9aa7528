/** Boundary cases of promises 9 to 16 and 18: key, rows, sort, why, value, term, length, charAt, told. */
final class ResultsEdges {
    /** A call that tells of a group. */
    private interface OfGroup {
        Object of(AggregateRows x, int group);
    }

    private ResultsEdges() {
    }

    static void all() {
        Sentences.holds(9, "there is no such group (of the latest run)", () -> groups(AggregateRows::key));
        Sentences.holds(9, "The key of a group's first row", ResultsEdges::keys);
        Sentences.holds(9, "NONE without rows", ResultsEdges::keyWithoutRows);

        Sentences.holds(10, "there is no such group (of the latest run)", () -> groups(AggregateRows::rows));
        Sentences.holds(10, "How many rows a group has (with ERRORS)", ResultsEdges::rows);

        Sentences.holds(11, "there is no such group (of the latest run)", () -> groups(AggregateRows::sort));
        Sentences.holds(11, "0 a number, 1 a text, 2 an ERROR, 3 nothing", ResultsEdges::sorts);

        Sentences.holds(12, "there is no such group (of the latest run)", () -> groups(AggregateRows::why));
        Sentences.holds(12, "The REASON of an ERROR", ResultsEdges::reasons);
        Sentences.holds(12, "0 if it is none", ResultsEdges::noReason);

        Sentences.holds(13, "there is no such group (of the latest run)", () -> groups((x, g) -> x.value(g, 0)));
        Sentences.holds(13, "part = 0 the upper, 1 the lower number", ResultsEdges::partsOfValues);
        Sentences.holds(13, "in lowest terms", ResultsEdges::lowestTerms);
        Sentences.holds(13, "0 and 1 if it is no number", ResultsEdges::valueOfNoNumber);
        Sentences.holds(13, "Of several the first one that a call names", ResultsEdges::noGroupBeforeNoPart);

        Sentences.holds(14, "there is no such group (of the latest run)", () -> groups(AggregateRows::term));
        Sentences.holds(14, "The term that the RESULT is (3 to 5, MIDDLE)", ResultsEdges::terms);
        Sentences.holds(14, "NONE", ResultsEdges::noTerm);

        Sentences.holds(15, "there is no such group (of the latest run)", () -> groups(AggregateRows::length));
        Sentences.holds(15, "How many characters the RESULT has, if it is a text", ResultsEdges::lengths);
        Sentences.holds(15, "else 0", ResultsEdges::lengthOfNoText);

        Sentences.holds(16, "there is no such group (of the latest run)", ResultsEdges::groupsOfCharacters);
        Sentences.holds(16, "Character i of the RESULT, if it is a text", ResultsEdges::characters);
        Sentences.holds(16, "there is no such .. character", ResultsEdges::noSuchCharacter);

        Sentences.holds(18, "Terms (what = 0)", ResultsEdges::toldTerms);
        Sentences.holds(18, "rows (1)", ResultsEdges::toldRows);
        Sentences.holds(18, "groups of the latest run (2)", ResultsEdges::toldGroups);
        Sentences.holds(18, "another number is none that is told", ResultsEdges::noSuchTold);
    }

    /** None of the calls that tell of a group finds this one. */
    static void noSuchGroup(Story.Maker maker, int group) {
        Refused.index("key of " + group, maker, x -> x.key(group));
        Refused.index("rows of " + group, maker, x -> x.rows(group));
        Refused.index("sort of " + group, maker, x -> x.sort(group));
        Refused.index("why of " + group, maker, x -> x.why(group));
        Refused.index("upper of " + group, maker, x -> x.value(group, 0));
        Refused.index("lower of " + group, maker, x -> x.value(group, 1));
        Refused.index("term of " + group, maker, x -> x.term(group));
        Refused.index("length of " + group, maker, x -> x.length(group));
        Refused.index("charAt of " + group, maker, x -> x.charAt(group, 0));
        Refused.index("having of " + group, maker, x -> x.having(group, 1, 0, 1));
    }

    /** Groups by keys 0 .. n - 1, each with its key's text as the value's text too; JOINed. */
    private static AggregateRows withGroups(int howMany) {
        AggregateRows x = new AggregateRows();
        Sample.fillTerms(x);
        for (int n = 0; n < howMany; n++) {
            x.row(0, n, n);
        }
        x.run(Sample.JOIN, false);
        return x;
    }

    private static AggregateRows fewerGroupsThanBefore() {
        AggregateRows x = withGroups(3);
        x.by(2);
        x.run(Sample.JOIN, false);
        return x;
    }

    private static AggregateRows noGroupsOfNoRows() {
        AggregateRows x = new AggregateRows();
        x.run(Sample.COUNT, false);
        return x;
    }

    private static void groups(OfGroup call) {
        answered(call, withGroups(1), 1);
        answered(call, withGroups(2), 2);
        answered(call, withGroups(60), 60);
        refused(call, AggregateRows::new, 0);
        refused(call, ResultsEdges::noGroupsOfNoRows, 0);
        refused(call, () -> withGroups(1), 1);
        refused(call, () -> withGroups(3), 3);
        refused(call, ResultsEdges::fewerGroupsThanBefore, 1);
        refused(call, ResultsEdges::fewerGroupsThanBefore, 2);
        refused(call, Story::used, 3);
        refused(call, Story::full, 3);
        AggregateRows most = withGroups(60);
        Check.index("group 60 of 60", () -> call.of(most, 60));
        Check.index("group -1 of 60", () -> call.of(most, -1));
    }

    private static void answered(OfGroup call, AggregateRows x, int groups) {
        for (int group = 0; group < groups; group++) {
            int which = group;
            String answer = Check.answerOf(() -> call.of(x, which));
            Check.same("group " + group + " of " + groups + " answers", false, answer.startsWith("throws."));
        }
    }

    private static void refused(OfGroup call, Story.Maker maker, int first) {
        Refused.index("group " + first, maker, x -> call.of(x, first));
        Refused.index("group -1", maker, x -> call.of(x, -1));
        Refused.index("group 60", maker, x -> call.of(x, 60));
        Refused.index("the least int", maker, x -> call.of(x, Integer.MIN_VALUE));
        Refused.index("the greatest int", maker, x -> call.of(x, Integer.MAX_VALUE));
    }

    private static void keys() {
        AggregateRows most = withGroups(60);
        Check.same("the first of 60", 0, most.key(0));
        Check.same("the last of 60", 59, most.key(59));
        AggregateRows x = new AggregateRows();
        Sample.row(x, 2, "5", "1");
        Sample.row(x, 1, "5.0", "1");
        Sample.row(x, 0, "5.00", "!");
        x.by(1);
        x.run(Sample.COUNT, false);
        Check.same("the first row by parts, an ERROR", x.number(500, 2), x.key(0));
        x.by(2);
        x.run(Sample.COUNT, false);
        Check.same("of all rows", x.number(500, 2), x.key(0));
    }

    private static void keyWithoutRows() {
        AggregateRows x = new AggregateRows();
        x.by(2);
        x.run(Sample.COUNT, false);
        Check.same("no terms", -1, x.key(0));
        x.number(5, 0);
        x.run(Sample.COUNT, false);
        Check.same("a term without rows", AggregateRows.NONE, x.key(0));
        x.row(0, 0, AggregateRows.NONE);
        Check.same("till the next run", AggregateRows.NONE, x.key(0));
        x.run(Sample.COUNT, false);
        Check.same("one row, an ERROR", 0, x.key(0));
    }

    private static void rows() {
        AggregateRows x = new AggregateRows();
        x.by(2);
        x.run(Sample.COUNT, false);
        Check.same("none", 0, x.rows(0));
        x.number(5, 0);
        for (int n = 1; n <= 60; n++) {
            x.row(n % 3, 0, n % 2 == 0 ? 0 : AggregateRows.NONE);
            x.run(Sample.COUNT, true);
            Check.same("ERRORS and EQUAL ones, too", n, x.rows(0));
        }
        AggregateRows most = withGroups(60);
        Check.same("the first of 60 groups", 1, most.rows(0));
        Check.same("the last of 60 groups", 1, most.rows(59));
    }

    /** Groups whose FIRST is a number, a text and nothing. */
    private static AggregateRows three(int kind) {
        AggregateRows x = new AggregateRows();
        Sample.row(x, 0, "a", "0");
        Sample.row(x, 0, "b", "xyz");
        Sample.row(x, 0, "c", "!");
        x.run(kind, false);
        return x;
    }

    private static AggregateRows threeOwn(int type) {
        AggregateRows x = three(Sample.COUNT);
        x.own(type);
        x.run(Sample.OWN, false);
        return x;
    }

    private static String ofThree(AggregateRows x, OfGroup call) {
        return call.of(x, 0) + " " + call.of(x, 1) + " " + call.of(x, 2);
    }

    private static void sorts() {
        String[] due = {"0 0 0", "0 2 0", "0 2 0", "0 1 3", "0 1 3", "0 1 3", "1 1 1", "0 2 0"};
        String[] dueOfOwn = {"0 2 0", "0 2 3", "0 2 2"};
        for (int kind = 0; kind < 8; kind++) {
            Check.same("kind " + kind, due[kind], ofThree(three(kind), AggregateRows::sort));
        }
        for (int type = 0; type <= 2; type++) {
            Check.same("type " + type, dueOfOwn[type], ofThree(threeOwn(type), AggregateRows::sort));
        }
        Check.same("an empty text is a text", 1, three(Sample.JOIN).sort(2));
        AggregateRows tooLong = eights(10, "a");
        Check.same("no text any more", 2, tooLong.sort(0));
    }

    /** So many texts of eight letters, then the others, JOINed. */
    private static AggregateRows eights(int howMany, String... more) {
        AggregateRows x = Sample.rowsOf(howMany, "abcdefgh", more);
        x.run(Sample.JOIN, false);
        return x;
    }

    private static void reasons() {
        Check.same("a text in SUM", "0 1 0", ofThree(three(Sample.SUM), AggregateRows::why));
        Check.same("a text in MEAN", "0 1 0", ofThree(three(Sample.MEAN), AggregateRows::why));
        Check.same("a text in SPAN", "0 1 0", ofThree(threeOwn(Sample.SPAN), AggregateRows::why));
        Check.same("a text in MIDDLE", "0 1 0", ofThree(threeOwn(Sample.MIDDLE), AggregateRows::why));
        Check.same("a text in SHARE, and none", "0 1 3", ofThree(threeOwn(Sample.SHARE), AggregateRows::why));
        Check.same("81 characters", 2, eights(10, "a").why(0));
    }

    private static void noReason() {
        for (int kind : new int[] {Sample.COUNT, Sample.LEAST, Sample.GREATEST, Sample.FIRST, Sample.JOIN}) {
            Check.same("kind " + kind, "0 0 0", ofThree(three(kind), AggregateRows::why));
        }
        Check.same("80 characters", 0, eights(10).why(0));
        AggregateRows x = eights(10, "a");
        x.run(Sample.COUNT, false);
        Check.same("the next run's RESULT is none", 0, x.why(0));
    }

    private static void partsOfValues() {
        AggregateRows x = Sample.of("-1.5", "0");
        x.run(Sample.SUM, false);
        Check.same("upper", -3L, x.value(0, 0));
        Check.same("lower", 2L, x.value(0, 1));
        for (int part : new int[] {-1, 2, Integer.MIN_VALUE, Integer.MAX_VALUE}) {
            Refused.argument("part " + part + " of nothing", Story::used, y -> y.value(2, part));
            Refused.argument("part " + part + " of a number", Story::full, y -> y.value(0, part));
            Refused.argument("part " + part + " of a text", () -> three(Sample.FIRST), y -> y.value(1, part));
            Refused.argument("part " + part + " of an ERROR", () -> three(Sample.SUM), y -> y.value(1, part));
        }
    }

    private static String meanOf(int howMany, String value, String last) {
        AggregateRows x = Sample.rowsOf(howMany - 1, value, last);
        x.run(Sample.MEAN, false);
        return x.value(0, 0) + "/" + x.value(0, 1);
    }

    private static void lowestTerms() {
        Check.same("0 is 0/1", "0/1", meanOf(60, "0", "0.000"));
        Check.same("a whole number is by 1", "1000000/1", meanOf(60, "1000000", "1000000"));
        Check.same("below 0 above the line", "-1/60000", meanOf(60, "0", "-0.001"));
        Check.same("the greatest lower number", "1/60000", meanOf(60, "0.000", "0.001"));
        Check.same("a far upper number", "59000000009/60000", meanOf(60, "1000000", "0.009"));
        Check.same("a far upper number below 0", "-59000000009/60000", meanOf(60, "-1000000", "-0.009"));
        Check.same("a common divisor of both", "1/3", meanOf(3, "0.500", "0.0"));
        Check.same("a term's value, too", "1/8 #1", Sample.result(Sample.FIRST, false, "0.125"));
        Check.same("not its units", "1000/1 #1", Sample.result(Sample.LEAST, false, "1000.000"));
    }

    private static void valueOfNoNumber() {
        OfGroup value = (x, group) -> x.value(group, 0) + "/" + x.value(group, 1);
        Check.same("0, a text, nothing", "0/1 0/1 0/1", ofThree(three(Sample.GREATEST), value));
        Check.same("texts", "0/1 0/1 0/1", ofThree(three(Sample.JOIN), value));
        Check.same("an ERROR", "0/1", value.of(eights(10, "a"), 0));
        AggregateRows x = Sample.of("7.5");
        x.run(Sample.FIRST, false);
        Check.same("a number before", "15/2", value.of(x, 0));
        x.run(Sample.JOIN, false);
        Check.same("its text now", "0/1", value.of(x, 0));
    }

    private static void noGroupBeforeNoPart() {
        Refused.index("neither group nor part", AggregateRows::new, x -> x.value(0, 2));
        Refused.index("no group behind the last, no part", Story::used, x -> x.value(3, -1));
        Refused.index("no group -1, no part", Story::full, x -> x.value(-1, 2));
        Refused.argument("a group, no part", Story::full, x -> x.value(0, 2));
    }

    private static void terms() {
        for (int kind = Sample.LEAST; kind <= Sample.FIRST; kind++) {
            Check.same("kind " + kind, "1 3 -1", ofThree(three(kind), AggregateRows::term));
        }
        Check.same("MIDDLE", "1 -1 -1", ofThree(threeOwn(Sample.MIDDLE), AggregateRows::term));
        AggregateRows most = withGroups(60);
        most.run(Sample.FIRST, false);
        Check.same("the first of all terms", 0, most.term(0));
        Check.same("the last of all terms", 59, most.term(59));
    }

    private static void noTerm() {
        for (int kind : new int[] {Sample.COUNT, Sample.SUM, Sample.MEAN, Sample.JOIN}) {
            Check.same("kind " + kind, "-1 -1 -1", ofThree(three(kind), AggregateRows::term));
        }
        Check.same("SPAN", "-1 -1 -1", ofThree(threeOwn(Sample.SPAN), AggregateRows::term));
        Check.same("SHARE", "-1 -1 -1", ofThree(threeOwn(Sample.SHARE), AggregateRows::term));
        AggregateRows x = three(Sample.FIRST);
        x.run(Sample.JOIN, false);
        Check.same("a text alone, joined", AggregateRows.NONE, x.term(1));
    }

    private static void lengths() {
        Check.same("the shortest", 1, eights(0, "a").length(0));
        Check.same("an empty one", 0, three(Sample.JOIN).length(2));
        Check.same("80", 80, eights(10).length(0));
        Check.same("79", 79, eights(9, "abcdefg").length(0));
        AggregateRows term = eights(1);
        term.run(Sample.GREATEST, false);
        Check.same("the longest term", 8, term.length(0));
        Check.same("the shortest text of a number", 1, three(Sample.JOIN).length(0));
        Check.same("the longest text of a number", 9, eights(0, "-1000.000").length(0));
    }

    private static void lengthOfNoText() {
        Check.same("a number, a text, nothing", "0 3 0", ofThree(three(Sample.FIRST), AggregateRows::length));
        Check.same("an ERROR", "0 0 0", ofThree(three(Sample.SUM), AggregateRows::length));
        AggregateRows x = eights(10);
        Sample.row(x, 0, "key", "a");
        x.run(Sample.JOIN, false);
        Check.same("a text of 81 characters", 0, x.length(0));
    }

    private static void groupsOfCharacters() {
        groups((x, group) -> x.charAt(group, 0));
        Refused.index("no group, no character", AggregateRows::new, x -> x.charAt(0, -1));
        Refused.index("no group, a character of another one", () -> three(Sample.JOIN), x -> x.charAt(3, 0));
    }

    private static void characters() {
        AggregateRows x = eights(9, "ijklmnop");
        Check.same("the first of 80", (int) 'a', x.charAt(0, 0));
        Check.same("the last but one of 80", (int) 'o', x.charAt(0, 78));
        Check.same("the last of 80", (int) 'p', x.charAt(0, 79));
        AggregateRows y = three(Sample.FIRST);
        Check.same("the first of a term", (int) 'x', y.charAt(1, 0));
        Check.same("the last of a term", (int) 'z', y.charAt(1, 2));
        Check.same("the only one", (int) '0', three(Sample.JOIN).charAt(0, 0));
        AggregateRows far = Sample.of("a", "-1000.000");
        far.separator(126);
        far.run(Sample.JOIN, false);
        Check.same("the last separator", 126, far.charAt(0, 1));
        Check.same("- in front", (int) '-', far.charAt(0, 2));
        Check.same("the last digit", (int) '0', far.charAt(0, 10));
    }

    private static void noSuchCharacter() {
        Refused.index("-1", () -> three(Sample.JOIN), x -> x.charAt(1, -1));
        Refused.index("behind the last", () -> three(Sample.JOIN), x -> x.charAt(1, 3));
        Refused.index("80 of 80", () -> eights(10), x -> x.charAt(0, 80));
        Refused.index("the least int", () -> eights(10), x -> x.charAt(0, Integer.MIN_VALUE));
        Refused.index("the greatest int", () -> eights(10), x -> x.charAt(0, Integer.MAX_VALUE));
        Refused.index("of an empty text", () -> three(Sample.JOIN), x -> x.charAt(2, 0));
        Refused.index("of a number", () -> three(Sample.FIRST), x -> x.charAt(0, 0));
        Refused.index("of nothing", () -> three(Sample.FIRST), x -> x.charAt(2, 0));
        Refused.index("of an ERROR", () -> three(Sample.SUM), x -> x.charAt(1, 0));
        Refused.index("of a text that is too long", () -> eights(10, "a"), x -> x.charAt(0, 0));
    }

    private static void toldTerms() {
        AggregateRows x = new AggregateRows();
        Check.same("none", 0, x.told(0));
        for (int n = 1; n <= 60; n++) {
            x.number(n, 3);
            Check.same("all that came", n, x.told(0));
            x.number(n, 3);
            Check.same("one that came again", n, x.told(0));
        }
        Check.state("one more", () -> x.text('a'));
        Check.same("still 60", 60, x.told(0));
    }

    private static void toldRows() {
        AggregateRows x = new AggregateRows();
        Check.same("none", 0, x.told(1));
        x.number(1, 0);
        for (int n = 1; n <= 60; n++) {
            x.row(n % 3, 0, AggregateRows.NONE);
            Check.same("all that came", n, x.told(1));
        }
        Check.state("one more", () -> x.row(0, 0, 0));
        Check.same("still 60", 60, x.told(1));
    }

    private static void toldGroups() {
        Check.same("before a run", 0, new AggregateRows().told(2));
        Check.same("of no rows", 0, noGroupsOfNoRows().told(2));
        AggregateRows one = new AggregateRows();
        one.by(2);
        Check.same("before a run of one group", 0, one.told(2));
        one.run(Sample.COUNT, false);
        Check.same("one without rows", 1, one.told(2));
        Check.same("60", 60, withGroups(60).told(2));
        Check.same("of the latest run, not the one before", 1, fewerGroupsThanBefore().told(2));
    }

    private static void noSuchTold() {
        for (int what : new int[] {-1, 3, Integer.MIN_VALUE, Integer.MAX_VALUE}) {
            Refused.argument("what " + what, x -> x.told(what));
        }
    }
}
