/** Boundary cases of promise 4: row. */
final class RowsEdges {
    private RowsEdges() {
    }

    static void all() {
        Sentences.holds(4, "ROWS, at most 60", RowsEdges::sixtyRows);
        Sentences.holds(4, "A row more: how many there are", RowsEdges::howManyThereAre);
        Sentences.holds(4, "told to PARTS 0 .. 2", RowsEdges::parts);
        Sentences.holds(4, "with a key (a term)", RowsEdges::keys);
        Sentences.holds(4, "a value (a term, or NONE: an ERROR)", RowsEdges::values);
        Sentences.holds(4, "They stand by parts, in a part as they came", RowsEdges::howTheyStand);
        Sentences.holds(4, "Of several the first one that a call names", RowsEdges::wrongRowsWithoutRoom);
    }

    private static AggregateRows withRows(int howMany, int part) {
        AggregateRows x = new AggregateRows();
        x.number(1, 0);
        for (int n = 0; n < howMany; n++) {
            x.row(part, 0, 0);
        }
        return x;
    }

    private static void sixtyRows() {
        for (int part = 0; part <= 2; part++) {
            int which = part;
            Check.same("row 60 is taken", 60, withRows(59, part).row(part, 0, 0));
            Check.same("row 60 of an ERROR is taken", 60, withRows(59, part).row(part, 0, AggregateRows.NONE));
            for (int other = 0; other <= 2; other++) {
                int another = other;
                Refused.state("row 61", () -> withRows(60, which), x -> x.row(another, 0, 0));
            }
            Refused.state("row 61, an ERROR", Story::full, x -> x.row(which, 59, AggregateRows.NONE));
            Refused.state("row 61 with all terms", Story::full, x -> x.row(which, 0, 59));
        }
        AggregateRows x = withRows(60, 1);
        x.run(Sample.SUM, false);
        Check.same("all of them serve", "60/1", Sample.tell(x, 0));
        Check.same("all of them are told", 60, x.rows(0));
    }

    private static void howManyThereAre() {
        AggregateRows x = new AggregateRows();
        x.number(1, 0);
        for (int n = 1; n <= 60; n++) {
            Check.argument("a refused one", () -> x.row(0, 1, 0));
            Check.same("row " + n, n, x.row(n % 3, 0, n % 2 == 0 ? 0 : AggregateRows.NONE));
            Check.same("told", n, x.told(1));
        }
    }

    private static AggregateRows withTerm() {
        AggregateRows x = new AggregateRows();
        x.text('t');
        return x;
    }

    private static void parts() {
        Check.same("part 0", 1, withTerm().row(0, 0, 0));
        Check.same("part 1", 1, withTerm().row(1, 0, 0));
        Check.same("part 2", 1, withTerm().row(2, 0, 0));
        for (int part : new int[] {-1, 3, Integer.MIN_VALUE, Integer.MAX_VALUE}) {
            Refused.argument("part " + part, RowsEdges::withTerm, x -> x.row(part, 0, 0));
            Refused.argument("part " + part + " of an ERROR", Story::used, x -> x.row(part, 0, AggregateRows.NONE));
        }
    }

    private static void keys() {
        Refused.argument("a key without terms", AggregateRows::new, x -> x.row(0, 0, AggregateRows.NONE));
        Check.same("the only term", 1, withTerm().row(0, 0, AggregateRows.NONE));
        Refused.argument("behind the only term", RowsEdges::withTerm, x -> x.row(0, 1, 0));
        AggregateRows full = new AggregateRows();
        Sample.fillTerms(full);
        Check.same("the first of 60 terms", 1, full.row(0, 0, 0));
        Check.same("the last of 60 terms", 2, full.row(0, 59, 0));
        Check.argument("no key 60", () -> full.row(0, 60, 0));
        Check.same("groups of them", 2, full.run(Sample.COUNT, false));
        Check.same("the last key", 59, full.key(1));
        Refused.argument("NONE is no key", Story::used, x -> x.row(0, AggregateRows.NONE, 0));
        Refused.argument("behind the last term", Story::used, x -> x.row(0, x.told(0), 0));
        Refused.argument("the least int", Story::used, x -> x.row(0, Integer.MIN_VALUE, 0));
        Refused.argument("the greatest int", Story::used, x -> x.row(0, Integer.MAX_VALUE, 0));
    }

    private static void values() {
        Check.same("the only term", 1, withTerm().row(0, 0, 0));
        Check.same("an ERROR", 1, withTerm().row(0, 0, AggregateRows.NONE));
        Refused.argument("behind the only term", RowsEdges::withTerm, x -> x.row(0, 0, 1));
        Refused.argument("below NONE", RowsEdges::withTerm, x -> x.row(0, 0, -2));
        AggregateRows full = new AggregateRows();
        Sample.fillTerms(full);
        Check.same("the first of 60 terms", 1, full.row(0, 0, 0));
        Check.same("the last of 60 terms", 2, full.row(0, 0, 59));
        Check.argument("no value 60", () -> full.row(0, 0, 60));
        full.run(Sample.SUM, false);
        Check.same("their sum", "59/1", Sample.tell(full, 0));
        Refused.argument("behind the last term", Story::used, x -> x.row(0, 0, x.told(0)));
        Refused.argument("below NONE with more terms", Story::used, x -> x.row(0, 0, -2));
        Refused.argument("the least int", Story::used, x -> x.row(0, 0, Integer.MIN_VALUE));
        Refused.argument("the greatest int", Story::used, x -> x.row(0, 0, Integer.MAX_VALUE));
    }

    /** Rows 0 .. 59 come with falling parts, so that the rows that come last stand first. */
    private static void howTheyStand() {
        AggregateRows x = new AggregateRows();
        Sample.fillTerms(x);
        for (int n = 0; n < 60; n++) {
            x.row(2 - n / 20, n, n);
        }
        Check.same("each a group of its own", 60, x.run(Sample.FIRST, false));
        for (int place = 0; place < 60; place++) {
            int due = 20 * (2 - place / 20) + place % 20;
            Check.same("key at place " + place, due, x.key(place));
            Check.same("value at place " + place, due, x.term(place));
        }
        AggregateRows last = withRows(59, 1);
        last.by(2);
        last.row(0, 0, last.number(9, 0));
        last.run(Sample.FIRST, false);
        Check.same("row 60 stands first", "9/1 #1", Sample.tell(last, 0));
    }

    private static void wrongRowsWithoutRoom() {
        Refused.argument("part above", Story::full, x -> x.row(3, 0, 0));
        Refused.argument("part below", Story::full, x -> x.row(-1, 0, 0));
        Refused.argument("key above", Story::full, x -> x.row(0, 60, 0));
        Refused.argument("key below", Story::full, x -> x.row(0, -1, 0));
        Refused.argument("value above", Story::full, x -> x.row(0, 0, 60));
        Refused.argument("value below", Story::full, x -> x.row(0, 0, -2));
        Refused.state("nothing wrong but the room", Story::full, x -> x.row(0, 0, 0));
    }
}
