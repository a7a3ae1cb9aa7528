import java.math.BigDecimal;

/** Ways to fill an object, and to tell a result, that keep the tests readable. */
final class Sample {
    static final int COUNT = 0;
    static final int SUM = 1;
    static final int MEAN = 2;
    static final int LEAST = 3;
    static final int GREATEST = 4;
    static final int FIRST = 5;
    static final int JOIN = 6;
    static final int OWN = 7;

    static final int SPAN = 0;
    static final int MIDDLE = 1;
    static final int SHARE = 2;

    private Sample() {
    }

    /** The word whose bytes are the letters, the last one lowest. */
    static long word(String letters) {
        long word = 0;
        for (char c : letters.toCharArray()) {
            word = word << 8 | c;
        }
        return word;
    }

    /** The term of what is written: -1.50 is units -150 and scale 2, ab a text, ! an ERROR. */
    static int term(AggregateRows x, String written) {
        if (written.equals("!")) {
            return AggregateRows.NONE;
        }
        if (Character.isLetter(written.charAt(0))) {
            return x.text(word(written));
        }
        BigDecimal number = new BigDecimal(written);
        return x.number(number.unscaledValue().intValueExact(), number.scale());
    }

    static int row(AggregateRows x, int part, String key, String value) {
        return x.row(part, term(x, key), term(x, value));
    }

    /** An object with all the values in one group, whose key is term 0, the text key. */
    static AggregateRows of(String... values) {
        AggregateRows x = new AggregateRows();
        for (String value : values) {
            row(x, 0, "key", value);
        }
        x.by(2);
        return x;
    }

    /** An object with rows of one value, so many of them, then one of each more, all with the same key. */
    static AggregateRows rowsOf(int howMany, String value, String... more) {
        AggregateRows x = new AggregateRows();
        for (int n = 0; n < howMany; n++) {
            row(x, 0, "key", value);
        }
        for (String one : more) {
            row(x, 0, "key", one);
        }
        return x;
    }

    /** The result of a run over all the values as one group. */
    static String result(int kind, boolean distinct, String... values) {
        AggregateRows x = of(values);
        x.run(kind, distinct);
        return tell(x, 0);
    }

    static String ownResult(int type, boolean distinct, String... values) {
        AggregateRows x = of(values);
        x.own(type);
        x.run(OWN, distinct);
        return tell(x, 0);
    }

    /** A result by every call that tells of it: 5/2, 'ab', error 1 or nothing, then #term if it is one. */
    static String tell(AggregateRows x, int group) {
        int sort = x.sort(group);
        String told;
        if (sort == 0) {
            told = x.value(group, 0) + "/" + x.value(group, 1);
        } else if (sort == 1) {
            told = "'" + textOf(x, group) + "'";
        } else {
            told = sort == 2 ? "error " + x.why(group) : sort == 3 ? "nothing" : "sort " + sort;
        }
        if (sort != 0) {
            Check.same("value of no number", "0/1", x.value(group, 0) + "/" + x.value(group, 1));
        }
        if (sort != 1) {
            Check.same("length of no text", 0, x.length(group));
        }
        if (sort != 2) {
            Check.same("why of no ERROR", 0, x.why(group));
        }
        Check.index("charAt behind the end", () -> x.charAt(group, x.length(group)));
        return x.term(group) == AggregateRows.NONE ? told : told + " #" + x.term(group);
    }

    static String textOf(AggregateRows x, int group) {
        StringBuilder text = new StringBuilder();
        int length = x.length(group);
        for (int i = 0; i < length; i++) {
            text.append((char) x.charAt(group, i));
        }
        return text.toString();
    }

    /** Fills up to 60 terms: the numbers 0, 1, .. with scale 0, from the count that there is. */
    static void fillTerms(AggregateRows x) {
        for (int n = x.told(0); n < 60; n++) {
            x.number(n, 0);
        }
    }
}
