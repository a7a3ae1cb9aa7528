/**
 * All that calls can tell of objects that are made alike. Many ways of asking change the object, so each of them gets
 * an object of its own; the objects are small enough for each to be asked within its 512 calls.
 */
final class Story {
    interface Maker {
        AggregateRows make();
    }

    private final StringBuilder told = new StringBuilder();
    private final Maker maker;

    private Story(Maker maker) {
        this.maker = maker;
    }

    static String of(Maker maker) {
        Story story = new Story(maker);
        story.tellResults(maker.make());
        story.tellSettings(maker.make());
        story.tellRuns();
        story.tellTerms();
        return story.told.toString();
    }

    /** The results of an object's latest run, by every call that tells of them. */
    static String results(AggregateRows x) {
        Story story = new Story(() -> x);
        story.tellResults(x);
        return story.told.toString();
    }

    /** Some of everything: results of each sort, settings that are not the first ones, rows in all parts. */
    static AggregateRows used() {
        AggregateRows x = new AggregateRows();
        Sample.row(x, 2, "1", "2.50");
        Sample.row(x, 1, "1.0", "-1");
        Sample.row(x, 0, "ab", "xyz");
        Sample.row(x, 0, "1", "!");
        Sample.row(x, 0, "a", "!");
        Sample.row(x, 1, "ab", "2.5");
        x.by(1);
        x.separator(',');
        x.own(Sample.SHARE);
        x.run(Sample.LEAST, true);
        return x;
    }

    /** All the terms and all the rows that there is room for, in three groups. */
    static AggregateRows full() {
        AggregateRows x = new AggregateRows();
        x.text(Sample.word("full"));
        Sample.fillTerms(x);
        for (int n = 0; n < 60; n++) {
            x.row(n % 3, n % 7 == 0 ? 0 : n % 2 + 1, n % 5 == 0 ? AggregateRows.NONE : 59 - n);
        }
        x.separator('+');
        x.own(Sample.MIDDLE);
        x.run(Sample.GREATEST, false);
        return x;
    }

    private void tell(String what, Check.Call call) {
        told.append(what).append(' ').append(Check.answerOf(call)).append('\n');
    }

    private void tellResults(AggregateRows x) {
        for (int what = 0; what <= 2; what++) {
            int which = what;
            tell("told " + what, () -> x.told(which));
        }
        int groups = x.told(2);
        for (int group = 0; group < groups; group++) {
            tellResult(x, group);
        }
        tell("no group " + groups, () -> x.sort(groups));
    }

    private void tellResult(AggregateRows x, int group) {
        tell("key", () -> x.key(group));
        tell("rows", () -> x.rows(group));
        tell("sort", () -> x.sort(group));
        tell("why", () -> x.why(group));
        tell("upper", () -> x.value(group, 0));
        tell("lower", () -> x.value(group, 1));
        tell("term", () -> x.term(group));
        tell("text", () -> Sample.textOf(x, group));
        tell("just 0", () -> x.having(group, 1, 0, 1));
    }

    private void tellSettings(AggregateRows x) {
        tell("by", () -> x.by(0));
        tell("separator", () -> x.separator(0));
        tell("own", () -> x.own(0));
    }

    private void tellRuns() {
        for (int kind = 0; kind < 8; kind++) {
            tellRun(maker.make(), kind, false);
            tellRun(maker.make(), kind, true);
        }
        for (int how = 0; how <= 2; how++) {
            AggregateRows x = maker.make();
            x.by(how);
            tellRun(x, Sample.JOIN, true);
        }
    }

    private void tellRun(AggregateRows x, int kind, boolean distinct) {
        tell("run " + kind + ' ' + distinct, () -> x.run(kind, distinct));
        tellResults(x);
    }

    /** What each term is, told by a row more if there is room for one; then what new terms get. */
    private void tellTerms() {
        int terms = maker.make().told(0);
        for (int term = 0; term < terms; term++) {
            AggregateRows x = maker.make();
            int which = term;
            tell("row of " + term, () -> x.row(0, which, which));
            x.by(0);
            tellRun(x, Sample.JOIN, false);
        }
        AggregateRows x = maker.make();
        tell("a new number", () -> x.number(987654, 3));
        tell("a new text", () -> x.text(Sample.word("newest")));
        tell("terms", () -> x.told(0));
    }
}
