import java.util.ArrayList;
import java.util.Collections;
import java.util.Comparator;
import java.util.List;

/** A group's parts: what a run tells of it is put together from what it tells of each part for itself. */
final class PartsReading {
    private static final int PARTS = 3;

    /** A row with its key, k at all places, left out. */
    private record Row(int part, String value) {
    }

    private PartsReading() {
    }

    static void all() {
        List<Row> mixed = rows("1.50 -2 !", "3.0 3 -2.0", "0.125");
        List<Row> fewInTheMiddle = rows("7 7.0", "!", "-1");
        List<Row> lastAlone = rows("", "", "0.5 ! 2");
        List<Row> none = rows("", "", "");
        for (List<Row> rows : List.of(mixed, fewInTheMiddle, lastAlone, none)) {
            toldInAnyOrder(rows);
            likeOnePart(rows);
            putTogether(rows);
        }
        List<Row> withTexts = rows("1 b", "b 1.0", "a");
        toldInAnyOrder(withTexts);
        likeOnePart(withTexts);
    }

    private static List<Row> rows(String... parts) {
        List<Row> rows = new ArrayList<>();
        for (int part = 0; part < PARTS; part++) {
            for (String value : parts[part].split(" ")) {
                if (!value.isEmpty()) {
                    rows.add(new Row(part, value));
                }
            }
        }
        return rows;
    }

    /** The terms first, in the order of the whole table, so that they have the same numbers however rows are told. */
    private static AggregateRows told(List<Row> whole, List<Row> rows) {
        AggregateRows x = new AggregateRows();
        Sample.term(x, "k");
        for (Row row : whole) {
            Sample.term(x, row.value);
        }
        for (Row row : rows) {
            Sample.row(x, row.part, "k", row.value);
        }
        x.by(2);
        x.separator('/');
        return x;
    }

    private static String everything(AggregateRows x) {
        StringBuilder told = new StringBuilder();
        for (int kind = Sample.COUNT; kind <= Sample.JOIN; kind++) {
            told.append(ReadingTest.results(x, kind, false)).append('|');
            told.append(ReadingTest.results(x, kind, true)).append('|');
        }
        for (int type = Sample.SPAN; type <= Sample.SHARE; type++) {
            x.own(type);
            told.append(ReadingTest.results(x, Sample.OWN, false)).append('|');
            told.append(ReadingTest.results(x, Sample.OWN, true)).append('|');
        }
        return told.toString();
    }

    /** Orders that leave each part's rows as they are among themselves: the last part first, and parts in turns. */
    private static void toldInAnyOrder(List<Row> rows) {
        String due = everything(told(rows, rows));
        List<Row> lastPartFirst = new ArrayList<>(rows);
        lastPartFirst.sort(Comparator.comparingInt(Row::part).reversed());
        Check.same("the last part first", due, everything(told(rows, lastPartFirst)));
        List<Row> inTurns = new ArrayList<>();
        List<List<Row>> left = List.of(partOf(rows, 0), partOf(rows, 1), partOf(rows, 2));
        for (int turn = 0; inTurns.size() < rows.size(); turn++) {
            List<Row> part = left.get((2 * turn + 1) % PARTS);
            if (!part.isEmpty()) {
                inTurns.add(part.remove(0));
            }
        }
        Check.same("parts in turns", due, everything(told(rows, inTurns)));
    }

    private static void likeOnePart(List<Row> rows) {
        for (int part = 0; part < PARTS; part++) {
            List<Row> moved = new ArrayList<>();
            for (Row row : rows) {
                moved.add(new Row(part, row.value));
            }
            Check.same("all in part " + part, everything(told(rows, rows)), everything(told(rows, moved)));
        }
    }

    private static List<Row> partOf(List<Row> rows, int part) {
        List<Row> own = new ArrayList<>(rows);
        own.removeIf(row -> row.part != part);
        return own;
    }

    private static AggregateRows run(List<Row> whole, List<Row> rows, int kind) {
        AggregateRows x = told(whole, rows);
        x.run(kind, false);
        return x;
    }

    private static long thousandths(AggregateRows x) {
        return x.value(0, 0) * 1000 / x.value(0, 1);
    }

    /** Rows of numbers: counts and sums of the parts added up; their least, greatest and first ones; texts joined. */
    private static void putTogether(List<Row> rows) {
        long count = 0;
        long sum = 0;
        List<Long> leasts = new ArrayList<>();
        List<Long> greatests = new ArrayList<>();
        List<Integer> firsts = new ArrayList<>();
        List<String> texts = new ArrayList<>();
        for (int part = 0; part < PARTS; part++) {
            List<Row> own = partOf(rows, part);
            long countOfPart = run(rows, own, Sample.COUNT).value(0, 0);
            count += countOfPart;
            sum += thousandths(run(rows, own, Sample.SUM));
            if (countOfPart > 0) {
                leasts.add(thousandths(run(rows, own, Sample.LEAST)));
                greatests.add(thousandths(run(rows, own, Sample.GREATEST)));
                firsts.add(run(rows, own, Sample.FIRST).term(0));
                texts.add(Sample.textOf(run(rows, own, Sample.JOIN), 0));
            }
        }
        Check.same("COUNT", count, run(rows, rows, Sample.COUNT).value(0, 0));
        Check.same("SUM", sum, thousandths(run(rows, rows, Sample.SUM)));
        AggregateRows mean = run(rows, rows, Sample.MEAN);
        Check.same("MEAN", sum * mean.value(0, 1), mean.value(0, 0) * 1000 * Math.max(1, count));
        Check.same("JOIN", String.join("/", texts), Sample.textOf(run(rows, rows, Sample.JOIN), 0));
        if (count > 0) {
            long least = Collections.min(leasts);
            long greatest = Collections.max(greatests);
            Check.same("LEAST", least, thousandths(run(rows, rows, Sample.LEAST)));
            Check.same("GREATEST", greatest, thousandths(run(rows, rows, Sample.GREATEST)));
            Check.same("FIRST", firsts.get(0), run(rows, rows, Sample.FIRST).term(0));
            Check.same("SPAN", greatest - least, thousandths(run(rows, rows, Sample.OWN)));
        }
    }
}
