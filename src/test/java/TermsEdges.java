/** Boundary cases of promises 1 to 3: a new object, number, text. */
final class TermsEdges {
    private static final int MOST_UNITS = 1000000;

    private TermsEdges() {
    }

    static void all() {
        Sentences.holds(1, "No terms, no rows", TermsEdges::nothingInANewObject);
        Sentences.holds(1, "BY 0, no SEPARATOR, OWN type 0", TermsEdges::firstSettings);
        Sentences.holds(1, "there is no such group (of the latest run)", TermsEdges::noGroupsBeforeARun);
        Sentences.holds(1, "An object is used for at most 512 calls", TermsEdges::theLastCall);

        Sentences.holds(2, "TERMS are numbered 0, 1, .. as they come first", TermsEdges::numbersOfTerms);
        Sentences.holds(2, "at most 60", TermsEdges::sixtyNumbers);
        Sentences.holds(2, "UNITS, -1000000 .. 1000000", TermsEdges::units);
        Sentences.holds(2, "a SCALE 0 .. 3", TermsEdges::scales);
        Sentences.holds(2, "its value is UNITS / 10^SCALE", TermsEdges::valuesOfNumbers);
        Sentences.holds(2, "its text the decimal one with just SCALE digits behind a .", TermsEdges::textsOfNumbers);
        Sentences.holds(2, "with the same UNITS and SCALE .. are one term", TermsEdges::sameNumbers);
        Sentences.holds(2, "EQUAL if their values .. are the same", TermsEdges::equalNumbers);
        Sentences.holds(2, "ORDER: numbers by values", TermsEdges::orderOfNumbers);
        Sentences.holds(2, "Of several the first one that a call names", TermsEdges::wrongNumbersWithoutRoom);

        Sentences.holds(3, "A TEXT has 1 to 8 small letters", TermsEdges::oneToEightLetters);
        Sentences.holds(3, "the bytes of a word, the highest first, those that are 0 left out", TermsEdges::zeroBytes);
        Sentences.holds(3, "IllegalArgumentException: one is no small letter", TermsEdges::everyByteEverywhere);
        Sentences.holds(3, "or there is none", TermsEdges::noLetter);
        Sentences.holds(3, "at most 60", TermsEdges::sixtyTexts);
        Sentences.holds(3, "with the same .. letters, are one term", TermsEdges::sameTexts);
        Sentences.holds(3, "texts by letters (one that begins another one is before it)", TermsEdges::orderOfTexts);
        Sentences.holds(3, "Of several the first one that a call names", TermsEdges::wrongTextsWithoutRoom);
    }

    private static void nothingInANewObject() {
        AggregateRows x = new AggregateRows();
        Check.same("terms", 0, x.told(0));
        Check.same("rows", 0, x.told(1));
        Refused.argument("a key 0", AggregateRows::new, y -> y.row(0, 0, AggregateRows.NONE));
        Refused.argument("a value 0", AggregateRows::new, y -> y.row(0, 0, 0));
        Check.same("the first term", 0, x.number(0, 0));
        Check.same("the first row", 1, x.row(0, 0, AggregateRows.NONE));
    }

    private static void firstSettings() {
        AggregateRows x = new AggregateRows();
        Check.same("BY", 0, x.by(0));
        Check.same("SEPARATOR", 0, x.separator(0));
        Check.same("OWN", 0, x.own(0));
        AggregateRows used = new AggregateRows();
        Sample.row(used, 0, "1", "a");
        Sample.row(used, 0, "1", "b");
        Sample.row(used, 0, "1.0", "3");
        Sample.row(used, 0, "1.0", "5");
        Check.same("groups by terms", 2, used.run(Sample.JOIN, false));
        Check.same("nothing between two", "'ab'", Sample.tell(used, 0));
        used.run(Sample.OWN, false);
        Check.same("the SPAN", "2/1", Sample.tell(used, 1));
    }

    private static void noGroupsBeforeARun() {
        Check.same("groups", 0, new AggregateRows().told(2));
        Story.Maker withRows = () -> {
            AggregateRows x = new AggregateRows();
            Sample.row(x, 0, "k", "v");
            x.by(2);
            return x;
        };
        Check.same("groups with rows", 0, withRows.make().told(2));
        for (int group = -1; group <= 1; group++) {
            ResultsEdges.noSuchGroup(AggregateRows::new, group);
            ResultsEdges.noSuchGroup(withRows, group);
        }
    }

    /** Calls 1 to 511 leave as much behind them as they can; call 512 is still answered. */
    private static void theLastCall() {
        AggregateRows x = new AggregateRows();
        for (int n = 0; n < 60; n++) {
            x.number(n - MOST_UNITS, 3);
        }
        for (int n = 0; n < 60; n++) {
            x.row(2 - n % 3, n, n);
        }
        for (int call = 121; call <= 511; call++) {
            Check.same("call " + call, 60, x.run((call + 7) % 8, call % 2 == 0));
        }
        Check.same("call 512, behind a JOIN: the length of -999.943", 8, x.length(59));
    }

    private static void numbersOfTerms() {
        AggregateRows x = new AggregateRows();
        Check.same("first", 0, x.number(5, 0));
        Check.argument("a refused one", () -> x.number(5, 4));
        Check.same("second, behind a refused one", 1, x.text('z'));
        Check.same("first again", 0, x.number(5, 0));
        Check.same("third, behind a known one", 2, x.number(-5, 0));
        Check.same("how many", 3, x.told(0));
    }

    private static AggregateRows withTerms(int howMany) {
        AggregateRows x = new AggregateRows();
        for (int n = 0; n < howMany; n++) {
            x.number(n, 1);
        }
        return x;
    }

    private static void sixtyNumbers() {
        Check.same("number 60 is taken", 59, withTerms(59).number(77, 0));
        Story.Maker full = () -> withTerms(60);
        Refused.state("number 61", full, x -> x.number(60, 1));
        Refused.state("number 61, EQUAL to a known one", full, x -> x.number(0, 0));
        Refused.state("number 61, the units of a known one", full, x -> x.number(59, 2));
        Refused.state("number 61 at the far end", full, x -> x.number(-MOST_UNITS, 3));
        Refused.state("number 61 with all rows", Story::full, x -> x.number(0, 3));
        for (int n = 0; n < 60; n++) {
            Check.same("a known one has room", n, full.make().number(n, 1));
        }
    }

    private static void units() {
        for (int scale = 0; scale <= 3; scale++) {
            int which = scale;
            AggregateRows x = new AggregateRows();
            Check.same("the least", 0, x.number(-MOST_UNITS, scale));
            Check.same("the greatest", 1, x.number(MOST_UNITS, scale));
            Check.same("next to the least", 2, x.number(1 - MOST_UNITS, scale));
            Check.same("next to the greatest", 3, x.number(MOST_UNITS - 1, scale));
            Refused.argument("one below, scale " + scale, y -> y.number(-MOST_UNITS - 1, which));
            Refused.argument("one above, scale " + scale, y -> y.number(MOST_UNITS + 1, which));
            Refused.argument("the least int, scale " + scale, y -> y.number(Integer.MIN_VALUE, which));
            Refused.argument("the greatest int, scale " + scale, y -> y.number(Integer.MAX_VALUE, which));
        }
    }

    private static void scales() {
        AggregateRows x = new AggregateRows();
        for (int scale = 0; scale <= 3; scale++) {
            Check.same("scale " + scale, scale, x.number(7, scale));
        }
        for (int units : new int[] {-MOST_UNITS, 0, 7, MOST_UNITS}) {
            Refused.argument("scale -1", y -> y.number(units, -1));
            Refused.argument("scale 4", y -> y.number(units, 4));
            Refused.argument("the least int", y -> y.number(units, Integer.MIN_VALUE));
            Refused.argument("the greatest int", y -> y.number(units, Integer.MAX_VALUE));
        }
    }

    private static String valueOf(int units, int scale) {
        AggregateRows x = new AggregateRows();
        x.number(units, scale);
        x.row(0, 0, 0);
        x.run(Sample.FIRST, false);
        return x.value(0, 0) + "/" + x.value(0, 1);
    }

    private static void valuesOfNumbers() {
        String[] ofOne = {"1/1", "1/10", "1/100", "1/1000"};
        String[] ofMost = {"1000000/1", "100000/1", "10000/1", "1000/1"};
        String[] nextToMost = {"999999/1", "999999/10", "999999/100", "999999/1000"};
        for (int scale = 0; scale <= 3; scale++) {
            Check.same("0", "0/1", valueOf(0, scale));
            Check.same("1", ofOne[scale], valueOf(1, scale));
            Check.same("-1", "-" + ofOne[scale], valueOf(-1, scale));
            Check.same("the greatest", ofMost[scale], valueOf(MOST_UNITS, scale));
            Check.same("the least", "-" + ofMost[scale], valueOf(-MOST_UNITS, scale));
            Check.same("next to the greatest", nextToMost[scale], valueOf(MOST_UNITS - 1, scale));
            Check.same("next to the least", "-" + nextToMost[scale], valueOf(1 - MOST_UNITS, scale));
        }
    }

    private static void textOfNumber(int units, int scale, String due) {
        AggregateRows x = new AggregateRows();
        x.number(units, scale);
        x.row(0, 0, 0);
        x.run(Sample.JOIN, false);
        Check.same("text of " + units + " with scale " + scale, "'" + due + "'", Sample.tell(x, 0));
    }

    /** For each scale the last number with a 0 before the point, and the first without one. */
    private static void textsOfNumbers() {
        String[][] due = {
            {"0", "1", "9", "10", "99", "100", "999", "1000", "9999", "10000", "1000000"},
            {"0.0", "0.1", "0.9", "1.0", "9.9", "10.0", "99.9", "100.0", "999.9", "1000.0", "100000.0"},
            {"0.00", "0.01", "0.09", "0.10", "0.99", "1.00", "9.99", "10.00", "99.99", "100.00", "10000.00"},
            {"0.000", "0.001", "0.009", "0.010", "0.099", "0.100", "0.999", "1.000", "9.999", "10.000", "1000.000"},
        };
        int[] units = {0, 1, 9, 10, 99, 100, 999, 1000, 9999, 10000, MOST_UNITS};
        for (int scale = 0; scale <= 3; scale++) {
            for (int i = 0; i < units.length; i++) {
                textOfNumber(units[i], scale, due[scale][i]);
                if (units[i] > 0) {
                    textOfNumber(-units[i], scale, "-" + due[scale][i]);
                }
            }
        }
        textOfNumber(MOST_UNITS - 1, 3, "999.999");
        textOfNumber(1 - MOST_UNITS, 1, "-99999.9");
    }

    private static void sameNumbers() {
        AggregateRows x = new AggregateRows();
        for (int scale = 0; scale <= 3; scale++) {
            Check.same("0 of another scale", 3 * scale, x.number(0, scale));
            Check.same("the greatest of another scale", 3 * scale + 1, x.number(MOST_UNITS, scale));
            Check.same("below 0 is another one", 3 * scale + 2, x.number(-MOST_UNITS, scale));
        }
        for (int scale = 0; scale <= 3; scale++) {
            Check.same("0 again", 3 * scale, x.number(0, scale));
            Check.same("the greatest again", 3 * scale + 1, x.number(MOST_UNITS, scale));
            Check.same("the least again", 3 * scale + 2, x.number(-MOST_UNITS, scale));
        }
        Check.same("no more than these", 12, x.told(0));
    }

    private static int equalOnes(String... written) {
        AggregateRows x = Sample.of(written);
        x.run(Sample.COUNT, true);
        return (int) x.value(0, 0);
    }

    private static void equalNumbers() {
        Check.same("0 of every scale", 1, equalOnes("0", "0.0", "0.00", "0.000"));
        Check.same("1000 of every scale", 1, equalOnes("1000", "1000.0", "1000.00", "1000.000"));
        Check.same("-1000 of every scale", 1, equalOnes("-1000.000", "-1000.00", "-1000.0", "-1000"));
        Check.same("not with the other sign", 2, equalOnes("1", "-1.0"));
        Check.same("not a thousandth beside", 3, equalOnes("1", "1.001", "0.999"));
        Check.same("not a thousandth from 0", 3, equalOnes("0.001", "0", "-0.001"));
        Check.same("not with the same units", 4, equalOnes("1000", "100.0", "10.00", "1.000"));
    }

    private static void orderOfNumbers() {
        String[] inOrder = {"-1000000", "-999999", "-100000.0", "-1000.000", "-999.999", "-1", "-0.001", "0.000",
            "0.001", "0.01", "0.1", "0.999", "1", "1.001", "999.999", "1000.0", "99999.9", "100000", "999999",
            "1000000"};
        for (int i = 1; i < inOrder.length; i++) {
            inThisOrder(inOrder[i - 1], inOrder[i]);
        }
        inThisOrder("1000000", "a");
    }

    private static void inThisOrder(String before, String behind) {
        String least = Sample.result(Sample.LEAST, false, behind, before);
        String greatest = Sample.result(Sample.GREATEST, false, behind, before);
        Check.same(before + " before " + behind, " #2", least.substring(least.length() - 3));
        Check.same(behind + " behind " + before, " #1", greatest.substring(greatest.length() - 3));
    }

    private static void wrongNumbersWithoutRoom() {
        Refused.argument("units above", Story::full, x -> x.number(MOST_UNITS + 1, 0));
        Refused.argument("units below", Story::full, x -> x.number(-MOST_UNITS - 1, 0));
        Refused.argument("scale above", Story::full, x -> x.number(-7, 4));
        Refused.argument("scale below", Story::full, x -> x.number(-7, -1));
        Refused.state("nothing wrong but the room", Story::full, x -> x.number(-7, 3));
    }

    private static String textOf(long word) {
        AggregateRows x = new AggregateRows();
        x.text(word);
        x.row(0, 0, 0);
        x.run(Sample.FIRST, false);
        return Sample.textOf(x, 0);
    }

    private static void oneToEightLetters() {
        String letters = "qwertyui";
        for (int length = 1; length <= 8; length++) {
            String text = letters.substring(0, length);
            Check.same(text, text, textOf(Sample.word(text)));
            Check.same("a's", "a".repeat(length), textOf(Sample.word("a".repeat(length))));
            Check.same("z's", "z".repeat(length), textOf(Sample.word("z".repeat(length))));
        }
        Refused.argument("no letter", x -> x.text(0));
    }

    /** Every choice of bytes of a full word that are 0: the others are the text. */
    private static void zeroBytes() {
        for (int choice = 1; choice < 256; choice++) {
            StringBuilder due = new StringBuilder();
            long word = 0;
            for (int place = 0; place < 8; place++) {
                boolean kept = (choice >> place & 1) == 1;
                word = word << 8 | (kept ? 'h' - place : 0);
                due.append(kept ? String.valueOf((char) ('h' - place)) : "");
            }
            Check.same("word " + Long.toHexString(word), due.toString(), textOf(word));
        }
    }

    private static void everyByteEverywhere() {
        for (int place = 0; place < 8; place++) {
            long others = Sample.word("mmmmmmmm") & ~(255L << 8 * place);
            for (long b = 1; b < 256; b++) {
                String due = b >= 'a' && b <= 'z' ? "0" : "throws.IllegalArgumentException";
                long word = b << 8 * place;
                Check.same("byte " + b + " alone", due, Check.answerOf(() -> new AggregateRows().text(word)));
                Check.same("byte " + b + " among letters", due,
                        Check.answerOf(() -> new AggregateRows().text(others | word)));
            }
        }
        Refused.argument("one before a", x -> x.text(Sample.word("ab`c")));
        Refused.argument("one behind z", x -> x.text(Sample.word("ab{c")));
        Refused.argument("the first one wrong", x -> x.text(Sample.word("Abcdefgh")));
        Refused.argument("the last one wrong", x -> x.text(Sample.word("abcdefgH")));
        Refused.argument("the highest bit", x -> x.text(Long.MIN_VALUE));
        Refused.argument("all bits", x -> x.text(-1));
        Refused.argument("all bits but the highest", x -> x.text(Long.MAX_VALUE));
    }

    private static void noLetter() {
        Refused.argument("no byte at all", x -> x.text(0));
        Check.same("one letter, lowest", "a", textOf('a'));
        Check.same("one letter, highest", "a", textOf((long) 'a' << 56));
    }

    private static AggregateRows withTexts(int howMany) {
        AggregateRows x = new AggregateRows();
        for (int n = 0; n < howMany; n++) {
            x.text(('a' + n / 26) << 8 | 'a' + n % 26);
        }
        return x;
    }

    private static void sixtyTexts() {
        Check.same("text 60 is taken", 59, withTexts(59).text('q'));
        Story.Maker full = () -> withTexts(60);
        Refused.state("text 61", full, x -> x.text('a'));
        Refused.state("text 61 of eight letters", full, x -> x.text(Sample.word("zzzzzzzz")));
        Refused.state("text 61 that a known one begins", full, x -> x.text(Sample.word("aaa")));
        Refused.state("number 61 behind texts", full, x -> x.number(0, 0));
        Refused.state("text 61 behind numbers", () -> withTerms(60), x -> x.text('a'));
        Refused.state("text 61 with all rows", Story::full, x -> x.text('a'));
        for (int n = 0; n < 60; n++) {
            long known = ('a' + n / 26) << 8 | 'a' + n % 26;
            Check.same("a known one has room", n, full.make().text(known));
        }
        Check.same("a known one at another place", 0, full.make().text(Sample.word("aa") << 48));
    }

    private static void sameTexts() {
        AggregateRows x = new AggregateRows();
        Check.same("lowest", 0, x.text('a'));
        for (int place = 1; place < 8; place++) {
            Check.same("at another place", 0, x.text((long) 'a' << 8 * place));
        }
        Check.same("twice is another one", 1, x.text(Sample.word("aa")));
        Check.same("eight times is another one", 2, x.text(Sample.word("aaaaaaaa")));
        Check.same("seven times is another one", 3, x.text(Sample.word("aaaaaaa")));
        Check.same("the last letter is another one", 4, x.text(Sample.word("aaaaaaab")));
        Check.same("the first letter is another one", 5, x.text(Sample.word("baaaaaaa")));
        Check.same("the greatest one", 6, x.text(Sample.word("zzzzzzzz")));
        Check.same("the greatest one again", 6, x.text(Sample.word("zzzzzzzz")));
        Check.same("no more than these", 7, x.told(0));
    }

    private static void orderOfTexts() {
        String[] inOrder = {"a", "aa", "aaaaaaa", "aaaaaaaa", "aaaaaaab", "aaaaaab", "ab", "az", "azzzzzzz", "b", "ba",
            "y", "yzzzzzzz", "z", "za", "zzzzzzz", "zzzzzzza", "zzzzzzzz"};
        for (int i = 1; i < inOrder.length; i++) {
            inThisOrder(inOrder[i - 1], inOrder[i]);
        }
        inThisOrder("0", "a");
        inThisOrder("1000000", "z");
    }

    private static void wrongTextsWithoutRoom() {
        Refused.argument("no letter", Story::full, x -> x.text(0));
        Refused.argument("no small letter", Story::full, x -> x.text('A'));
        Refused.state("nothing wrong but the room", Story::full, x -> x.text(Sample.word("fuller")));
    }
}
