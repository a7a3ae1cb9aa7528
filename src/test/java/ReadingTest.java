/** The document read once more from its first line: the sentences, or sides of them, that no other test names. */
public final class ReadingTest {
    private static final int KINDS = 8;
    private static final int TYPES = 3;

    public static void main(String[] args) {
        whatItIs();
        terms();
        promises();
        Sentences.end();
    }

    private static void whatItIs() {
        String section = "What it is";
        Sentences.holds(section,
                "counts, sums, means, least and greatest ones, first ones, texts joined, own functions",
                ReadingTest::everyKind);
        Sentences.holds(section, "alike ones once", ReadingTest::everyKindDistinct);
        Sentences.holds(section, "each group's parts reckoned for themselves and put together then", PartsReading::all);
        Sentences.holds(section, "what a result is, why there is none", ReadingTest::whatAResultIs);
        Sentences.holds(section, "which groups pass a bound", ReadingTest::groupsThatPass);
    }

    private static void terms() {
        String section = "Terms";
        Sentences.holds(section, "Two are EQUAL if their .. letters are the same", ReadingTest::equalLetters);
        Sentences.holds(section, "DISTINCT: of EQUAL ones over the first one alone (of other keys, too)",
                ReadingTest::distinctOverKeys);
        Sentences.holds(section, "6 JOIN: .. a TEXT", ReadingTest::joinIsAText);
        Sentences.holds(section, "with the SEPARATOR between two (in 6 alone)", ReadingTest::separatorInJoinAlone);
        Sentences.holds(section, "7 OWN, of a type (in 7 alone)", ReadingTest::typeInOwnAlone);
        Sentences.holds(section, "1 MIDDLE: .. a term", ReadingTest::middleIsATerm);
        Sentences.holds(section, "IllegalArgumentException: another number is none that is told",
                ReadingTest::wrongNumbersWhateverTheResult);
        Sentences.holds(section, "Of several the first one that a call names", ReadingTest::firstOfSeveral);
        Sentences.holds(section, "a call that throws changes nothing", ReadingTest::refusedBetweenAnyTwo);
    }

    private static void promises() {
        Sentences.holds(1, "A new object", ReadingTest::twoObjectsInTurns);
        Sentences.holds(2, "A NUMBER: its term", ReadingTest::termOfANumber);
        Sentences.holds(3, "A TEXT ..: its term", ReadingTest::termOfAText);
        Sentences.holds(8, "A RUN .. over all groups (it changes nothing else)", ReadingTest::runChangesNothingElse);
        Sentences.holds(8, "What it tells stays till the next one (new terms, too)", ReadingTest::staysWithNewTerms);
        Sentences.holds(8, "What it tells stays till the next one (however often)", ReadingTest::toldAgain);
        Sentences.holds(13, "The RESULT's value", ReadingTest::valueOfEveryNumber);
    }

    /** Groups a (2.50, -1, 2.5), b (pq, 4, an ERROR) and c (an ERROR); the terms 0 to 7 are as they come here. */
    private static AggregateRows table() {
        AggregateRows x = new AggregateRows();
        Sample.row(x, 0, "a", "2.50");
        Sample.row(x, 0, "b", "pq");
        Sample.row(x, 1, "a", "-1");
        Sample.row(x, 1, "b", "!");
        Sample.row(x, 2, "a", "2.5");
        Sample.row(x, 2, "c", "!");
        Sample.row(x, 0, "b", "4");
        x.separator('+');
        return x;
    }

    static String results(AggregateRows x, int kind, boolean distinct) {
        StringBuilder told = new StringBuilder();
        int groups = x.run(kind, distinct);
        for (int group = 0; group < groups; group++) {
            told.append(group == 0 ? "" : ", ").append(Sample.tell(x, group));
        }
        return told.toString();
    }

    private static void compareKinds(boolean distinct, String[] due, String[] dueOfOwn) {
        AggregateRows x = table();
        for (int kind = 0; kind < due.length; kind++) {
            Check.same("kind " + kind, due[kind], results(x, kind, distinct));
        }
        for (int type = 0; type < dueOfOwn.length; type++) {
            x.own(type);
            Check.same("type " + type, dueOfOwn[type], results(x, Sample.OWN, distinct));
        }
    }

    private static void everyKind() {
        compareKinds(false,
                new String[] {"3/1, 2/1, 0/1", "4/1, error 1, 0/1", "4/3, error 1, 0/1", "-1/1 #4, 4/1 #7, nothing",
                    "5/2 #1, 'pq' #3, nothing", "5/2 #1, 'pq' #3, nothing", "'2.50+-1+2.5', 'pq+4', ''"},
                new String[] {"7/2, error 1, 0/1", "5/2 #1, error 1, nothing", "5/3, error 1, error 3"});
    }

    private static void everyKindDistinct() {
        compareKinds(true,
                new String[] {"2/1, 2/1, 0/1", "3/2, error 1, 0/1", "3/4, error 1, 0/1", "-1/1 #4, 4/1 #7, nothing",
                    "5/2 #1, 'pq' #3, nothing", "5/2 #1, 'pq' #3, nothing", "'2.50+-1', 'pq+4', ''"},
                new String[] {"7/2, error 1, 0/1", "-1/1 #4, error 1, nothing", "5/4, error 1, error 3"});
    }

    private static void whatAResultIs() {
        AggregateRows x = table();
        x.run(Sample.GREATEST, false);
        Check.same("sorts of GREATEST", "0 1 3", x.sort(0) + " " + x.sort(1) + " " + x.sort(2));
        Check.same("none is an ERROR", "0 0 0", x.why(0) + " " + x.why(1) + " " + x.why(2));
        x.own(Sample.SHARE);
        x.run(Sample.OWN, false);
        Check.same("sorts of SHARE", "0 2 2", x.sort(0) + " " + x.sort(1) + " " + x.sort(2));
        Check.same("why there is none", "0 1 3", x.why(0) + " " + x.why(1) + " " + x.why(2));
    }

    private static String passing(AggregateRows x, int op, long upper, long lower) {
        StringBuilder passed = new StringBuilder();
        int groups = x.told(2);
        for (int group = 0; group < groups; group++) {
            passed.append(x.having(group, op, upper, lower) ? "yes " : "no ");
        }
        return passed.toString();
    }

    private static void groupsThatPass() {
        AggregateRows x = table();
        x.run(Sample.MEAN, false);
        Check.same("below 4/3", "no no yes ", passing(x, 0, 4, 3));
        Check.same("just 4/3", "yes no no ", passing(x, 1, 4, 3));
        Check.same("above 4/3", "no no no ", passing(x, 2, 4, 3));
        Check.same("above -1/2", "yes no yes ", passing(x, 2, -1, 2));
        Check.same("just 0", "no no yes ", passing(x, 1, 0, 9));
        x.run(Sample.COUNT, false);
        Check.same("COUNT above 1", "yes yes no ", passing(x, 2, 1, 1));
        x.run(Sample.LEAST, false);
        Check.same("LEAST below 4, a term or nothing", "yes no no ", passing(x, 0, 4, 1));
        Check.same("LEAST just 4", "no yes no ", passing(x, 1, 4, 1));
        x.run(Sample.JOIN, false);
        Check.same("no text passes", "no no no ", passing(x, 2, -1000000000, 1));
    }

    /** The number 97 is the byte of the letter a. */
    private static void equalLetters() {
        Check.same("a text and the numbers of its bytes", "3/1",
                Sample.result(Sample.COUNT, true, "a", "97", "0", "97.0", "a"));
        AggregateRows x = new AggregateRows();
        x.row(0, x.text(Sample.word("ab")), x.text(Sample.word("ab") << 40));
        x.row(0, x.text((long) 'a' << 56 | 'b'), x.text(Sample.word("ba")));
        x.by(1);
        Check.same("the same letters at other bytes", 1, x.run(Sample.COUNT, true));
        Check.same("the other way round is another text", "2/1", Sample.tell(x, 0));
    }

    private static AggregateRows equalValuesOfOtherKeys(int how) {
        AggregateRows x = new AggregateRows();
        Sample.row(x, 1, "1", "5");
        Sample.row(x, 0, "1.0", "5.0");
        Sample.row(x, 0, "a", "5.00");
        x.by(how);
        return x;
    }

    private static void distinctOverKeys() {
        Check.same("by terms", "'5.0', '5.00', '5'", results(equalValuesOfOtherKeys(0), Sample.JOIN, true));
        Check.same("by EQUAL keys", "'5.0', '5.00'", results(equalValuesOfOtherKeys(1), Sample.JOIN, true));
        Check.same("all rows", "'5.0'", results(equalValuesOfOtherKeys(2), Sample.JOIN, true));
    }

    private static void joinIsAText() {
        AggregateRows x = Sample.of("a", "b", "ab", "1", "!");
        int terms = x.told(0);
        x.run(Sample.JOIN, false);
        Check.same("a text of four terms", "'abab1'", Sample.tell(x, 0));
        Check.same("is no new term", terms, x.told(0));
        AggregateRows like = Sample.of("a", "b");
        like.text(Sample.word("ab"));
        like.run(Sample.JOIN, false);
        Check.same("letters of a term, and no term", "'ab'", Sample.tell(like, 0));
        Check.same("one number", "'-0.50'", Sample.result(Sample.JOIN, true, "-0.50"));
        Check.same("one text", "'pq'", Sample.result(Sample.JOIN, true, "pq"));
    }

    private static void separatorInJoinAlone() {
        for (int kind = 0; kind < KINDS; kind++) {
            AggregateRows x = table();
            x.separator(0);
            String without = results(x, kind, false);
            x.separator(126);
            Check.same("kind " + kind + " is the same", kind != Sample.JOIN, without.equals(results(x, kind, false)));
        }
    }

    private static void typeInOwnAlone() {
        for (int kind = 0; kind < KINDS; kind++) {
            AggregateRows x = table();
            String first = results(x, kind, true);
            for (int type = 1; type < TYPES; type++) {
                x.own(type);
                Check.same("kind " + kind + " of type " + type + " is the same", kind != Sample.OWN,
                        first.equals(results(x, kind, true)));
            }
        }
    }

    private static void middleIsATerm() {
        AggregateRows x = Sample.of("3", "2.50", "1");
        x.own(Sample.MIDDLE);
        x.run(Sample.OWN, false);
        Check.same("a term", x.number(250, 2), x.term(0));
        Check.same("a number", 0, x.sort(0));
        Check.same("its value", "5/2", x.value(0, 0) + "/" + x.value(0, 1));
        Check.same("no text", 0, x.length(0));
        Check.same("it passes a bound", true, x.having(0, 1, 5, 2));
    }

    /** A wrong number is refused of a number, a text, an empty text, an ERROR and nothing. */
    private static void wrongNumbersWhateverTheResult() {
        for (int kind : new int[] {Sample.COUNT, Sample.SUM, Sample.GREATEST, Sample.JOIN}) {
            Story.Maker maker = () -> {
                AggregateRows x = table();
                x.run(kind, false);
                return x;
            };
            for (int group = 0; group < 3; group++) {
                int which = group;
                String of = " of group " + group + ", kind " + kind;
                Refused.argument("op 3" + of, maker, x -> x.having(which, 3, 0, 1));
                Refused.argument("op -1" + of, maker, x -> x.having(which, -1, 0, 1));
                Refused.argument("upper" + of, maker, x -> x.having(which, 1, 1000000001, 1));
                Refused.argument("upper below" + of, maker, x -> x.having(which, 1, -1000000001, 1));
                Refused.argument("lower 0" + of, maker, x -> x.having(which, 1, 0, 0));
                Refused.argument("lower" + of, maker, x -> x.having(which, 1, 0, 1000001));
                Refused.argument("part 2" + of, maker, x -> x.value(which, 2));
                Refused.argument("part -1" + of, maker, x -> x.value(which, -1));
            }
        }
    }

    /** Every call that names two exceptions, where both have a cause; the second one's cause alone beside it. */
    private static void firstOfSeveral() {
        Refused.argument("number", Story::full, x -> x.number(1000001, -1));
        Refused.state("number, of the right ones", Story::full, x -> x.number(1000000, 3));
        Refused.argument("text", Story::full, x -> x.text('a' | '1' << 8));
        Refused.state("text, of the right ones", Story::full, x -> x.text('a' | 'b' << 8));
        Refused.argument("row", Story::full, x -> x.row(3, 60, 60));
        Refused.state("row, of the right ones", Story::full, x -> x.row(2, 59, 59));
        Refused.index("value", Story::full, x -> x.value(3, 2));
        Refused.argument("value, of a group", Story::full, x -> x.value(2, 2));
        Refused.index("having", Story::full, x -> x.having(3, 3, 1000000001, 0));
        Refused.argument("having, of a group", Story::full, x -> x.having(2, 3, 1000000001, 0));
    }

    /** Calls of every sort, as one after the other may come. */
    private static final Refused.CallOn[] ORDINARY = {
        x -> x.number(15, 1), x -> x.text('k'), x -> x.row(1, 1, 0), x -> x.row(0, 1, AggregateRows.NONE),
        x -> x.row(0, 0, 1), x -> x.by(1), x -> x.separator(';'), x -> x.own(1), x -> x.run(6, true), x -> x.key(1),
        x -> x.rows(0), x -> x.sort(0), x -> x.term(1), x -> x.length(0), x -> x.charAt(0, 2), x -> x.run(2, false),
        x -> x.why(1), x -> x.value(0, 0), x -> x.having(0, 1, 3, 2), x -> x.told(2),
    };

    /** Refused in whatever state the ordinary calls have brought an object to. */
    private static final Refused.CallOn[] REFUSED = {
        x -> x.number(1000001, 0), x -> x.number(7, 4), x -> x.text(0), x -> x.text('A'), x -> x.row(3, 0, 0),
        x -> x.row(0, 60, 0), x -> x.row(0, 0, -2), x -> x.by(3), x -> x.separator(31), x -> x.own(-1),
        x -> x.run(8, true), x -> x.key(60), x -> x.rows(-1), x -> x.sort(60), x -> x.why(60), x -> x.value(0, 2),
        x -> x.term(60), x -> x.length(-1), x -> x.charAt(0, 80), x -> x.having(0, 3, 0, 1), x -> x.told(3),
    };

    private static void refusedBetweenAnyTwo() {
        AggregateRows without = new AggregateRows();
        AggregateRows with = new AggregateRows();
        for (int i = 0; i < ORDINARY.length; i++) {
            for (int j = 0; j < REFUSED.length; j++) {
                Refused.CallOn refused = REFUSED[j];
                Check.same("call " + j + " is refused before call " + i, true,
                        Check.answerOf(() -> refused.of(with)).startsWith("throws."));
            }
            Refused.CallOn ordinary = ORDINARY[i];
            String due = Check.answerOf(() -> ordinary.of(without));
            Check.same("call " + i + " is answered", false, due.startsWith("throws."));
            Check.same("call " + i + " behind refused ones", due, Check.answerOf(() -> ordinary.of(with)));
        }
        Check.same("all that is told", Story.results(without), Story.results(with));
    }

    private static String answers(AggregateRows x, int from, int to) {
        StringBuilder told = new StringBuilder();
        for (int i = from; i < to; i++) {
            Refused.CallOn call = ORDINARY[i % ORDINARY.length];
            told.append(Check.answerOf(() -> call.of(x))).append(' ');
        }
        return told.toString();
    }

    /** The one object makes the calls from the first one, the other the same calls from the middle one. */
    private static void twoObjectsInTurns() {
        int half = ORDINARY.length / 2;
        String oneAlone = answers(new AggregateRows(), 0, ORDINARY.length);
        String otherAlone = answers(new AggregateRows(), half, half + ORDINARY.length);
        AggregateRows one = new AggregateRows();
        AggregateRows other = new AggregateRows();
        StringBuilder toldByOne = new StringBuilder();
        StringBuilder toldByOther = new StringBuilder();
        for (int i = 0; i < ORDINARY.length; i++) {
            toldByOne.append(answers(one, i, i + 1));
            toldByOther.append(answers(other, half + i, half + i + 1));
        }
        Check.same("the one as if alone", oneAlone, toldByOne.toString());
        Check.same("the other as if alone", otherAlone, toldByOther.toString());
    }

    private static void termOfANumber() {
        AggregateRows x = new AggregateRows();
        x.text('k');
        int number = x.number(-1205, 3);
        Check.same("behind the text", 1, number);
        x.row(0, number, number);
        x.run(Sample.FIRST, false);
        Check.same("the key", number, x.key(0));
        Check.same("the RESULT", "-241/200 #1", Sample.tell(x, 0));
        x.run(Sample.JOIN, false);
        Check.same("its text", "'-1.205'", Sample.tell(x, 0));
    }

    private static void termOfAText() {
        AggregateRows x = new AggregateRows();
        x.number(1, 0);
        int text = x.text(Sample.word("word"));
        Check.same("behind the number", 1, text);
        x.row(0, text, text);
        x.run(Sample.FIRST, false);
        Check.same("the key", text, x.key(0));
        Check.same("the RESULT", "'word' #1", Sample.tell(x, 0));
    }

    private static void runChangesNothingElse() {
        for (int kind = 0; kind < KINDS; kind++) {
            AggregateRows x = Story.used();
            int terms = x.told(0);
            x.run(kind, false);
            x.run(kind, true);
            Check.same("terms behind kind " + kind, terms, x.told(0));
            Check.same("rows behind kind " + kind, 6, x.told(1));
            Check.same("BY behind kind " + kind, 1, x.by(1));
            Check.same("SEPARATOR behind kind " + kind, (int) ',', x.separator(','));
            Check.same("OWN behind kind " + kind, Sample.SHARE, x.own(Sample.SHARE));
            String due = results(Story.used(), Sample.JOIN, false);
            Check.same("the next RUN behind kind " + kind, due, results(x, Sample.JOIN, false));
        }
    }

    private static void staysWithNewTerms() {
        for (int kind = 0; kind < KINDS; kind++) {
            AggregateRows x = table();
            String before = results(x, kind, false);
            x.number(77, 1);
            x.text(Sample.word("newer"));
            Sample.row(x, 0, "newest", "0.001");
            Sample.row(x, 0, "a", "zz");
            StringBuilder told = new StringBuilder();
            for (int group = 0; group < x.told(2); group++) {
                told.append(group == 0 ? "" : ", ").append(Sample.tell(x, group));
            }
            Check.same("kind " + kind, before, told.toString());
            Check.same("keys of kind " + kind, "0 2 6", x.key(0) + " " + x.key(1) + " " + x.key(2));
            Check.same("rows of kind " + kind, "3 3 1", x.rows(0) + " " + x.rows(1) + " " + x.rows(2));
        }
    }

    private static void toldAgain() {
        for (int kind = 0; kind < KINDS; kind++) {
            AggregateRows x = table();
            x.run(kind, true);
            String once = Story.results(x);
            Check.same("kind " + kind + " asked again", once, Story.results(x));
            x.run(kind, true);
            Check.same("kind " + kind + " run again", once, Story.results(x));
        }
    }

    /** 3/2 by every kind that can answer with it. */
    private static void valueOfEveryNumber() {
        Check.same("SUM", "3/2", Sample.result(Sample.SUM, false, "0.750", "0.75"));
        Check.same("MEAN", "3/2", Sample.result(Sample.MEAN, false, "0.5", "2.500"));
        Check.same("LEAST", "3/2 #2", Sample.result(Sample.LEAST, false, "2", "1.500"));
        Check.same("GREATEST", "3/2 #2", Sample.result(Sample.GREATEST, false, "1", "1.50"));
        Check.same("FIRST", "3/2 #1", Sample.result(Sample.FIRST, false, "1.5", "1"));
        Check.same("SPAN", "3/2", Sample.ownResult(Sample.SPAN, false, "-0.5", "1"));
        Check.same("MIDDLE", "3/2 #2", Sample.ownResult(Sample.MIDDLE, false, "1", "1.5", "2"));
        Check.same("SHARE", "3/2", Sample.ownResult(Sample.SHARE, false, "3", "-1"));
        Check.same("COUNT, by 1", "2/1", Sample.result(Sample.COUNT, false, "a", "b"));
    }
}
