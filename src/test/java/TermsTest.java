/** Promises 1 to 3: a new object, number, text. */
public final class TermsTest {
    public static void main(String[] args) {
        newObject();
        numbers();
        wrongNumbers();
        texts();
        wrongTexts();
        mostTerms();
        mostTermsWithWrongOnes();
        Check.end();
    }

    private static void newObject() {
        AggregateRows x = new AggregateRows();
        Check.same("NONE", -1, AggregateRows.NONE);
        Check.same("new: terms", 0, x.told(0));
        Check.same("new: rows", 0, x.told(1));
        Check.same("new: groups before a run", 0, x.told(2));
        Check.index("new: no group before a run", () -> x.key(0));
        Check.same("new: groups by 0", 0, x.run(Sample.COUNT, false));
        Check.same("new: BY", 0, x.by(2));
        Check.same("new: SEPARATOR", 0, x.separator(44));
        Check.same("new: OWN", 0, x.own(1));
        AggregateRows other = new AggregateRows();
        x.number(3, 0);
        x.row(0, 0, 0);
        Check.same("objects share no terms", 0, other.told(0));
        Check.same("objects share no rows", 0, other.told(1));
        Check.same("objects share no BY", 0, other.by(1));
    }

    private static void numbers() {
        AggregateRows x = new AggregateRows();
        Check.same("first number", 0, x.number(1, 0));
        Check.same("EQUAL with another scale is another term", 1, x.number(10, 1));
        Check.same("the same again", 0, x.number(1, 0));
        Check.same("the same scaled again", 1, x.number(10, 1));
        Check.same("same units, other scale", 2, x.number(1, 1));
        Check.same("least units", 3, x.number(-1000000, 0));
        Check.same("greatest units", 4, x.number(1000000, 3));
        Check.same("0", 5, x.number(0, 0));
        Check.same("0.000", 6, x.number(0, 3));
        Check.same("a text is no number", 7, x.text(Sample.word("a")));
        Check.same("0 again, behind a text", 5, x.number(0, 0));
        Check.same("terms", 8, x.told(0));
    }

    private static void wrongNumbers() {
        AggregateRows x = new AggregateRows();
        Check.argument("units above", () -> x.number(1000001, 0));
        Check.argument("units below", () -> x.number(-1000001, 0));
        Check.argument("units least int", () -> x.number(Integer.MIN_VALUE, 0));
        Check.argument("units greatest int", () -> x.number(Integer.MAX_VALUE, 3));
        Check.argument("scale above", () -> x.number(0, 4));
        Check.argument("scale below", () -> x.number(0, -1));
        Check.argument("scale least int", () -> x.number(0, Integer.MIN_VALUE));
        Check.same("no terms of wrong ones", 0, x.told(0));
    }

    private static void texts() {
        AggregateRows x = new AggregateRows();
        Check.same("first text", 0, x.text(Sample.word("b")));
        Check.same("the highest byte first", 1, x.text(Sample.word("ab")));
        Check.same("the other way is another one", 2, x.text(Sample.word("ba")));
        Check.same("one that begins another one", 3, x.text(Sample.word("a")));
        Check.same("zeros behind are left out", 3, x.text((long) 'a' << 56));
        Check.same("zeros between are left out", 1, x.text((long) 'a' << 48 | (long) 'b' << 16));
        Check.same("eight letters", 4, x.text(Sample.word("zyxwvuts")));
        Check.same("eight letters again", 4, x.text(Sample.word("zyxwvuts")));
        Check.same("eight z", 5, x.text(Sample.word("zzzzzzzz")));
        Check.same("a twice", 6, x.text(Sample.word("aa")));
        Check.same("terms", 7, x.told(0));
        x.row(0, 0, 1);
        x.row(0, 0, 4);
        x.run(Sample.FIRST, false);
        Check.same("letters as they came", "'ab' #1", Sample.tell(x, 0));
        x.run(Sample.JOIN, false);
        Check.same("eight letters as they came", "'abzyxwvuts'", Sample.tell(x, 0));
    }

    private static void wrongTexts() {
        AggregateRows x = new AggregateRows();
        Check.argument("no letter", () -> x.text(0));
        Check.argument("before a", () -> x.text('a' - 1));
        Check.argument("behind z", () -> x.text('z' + 1));
        Check.argument("A", () -> x.text('A'));
        Check.argument("a digit", () -> x.text('1'));
        Check.argument("a byte of 1", () -> x.text(1));
        Check.argument("a byte of 255", () -> x.text(Sample.word("a") | 255L << 8));
        Check.argument("all bits", () -> x.text(-1));
        Check.argument("highest bit with letters", () -> x.text(Sample.word("aaaaaaaa") | Long.MIN_VALUE));
        Check.argument("wrong one first", () -> x.text(Sample.word("Aaaaaaaa")));
        Check.argument("wrong one last", () -> x.text(Sample.word("aaaaaaaA")));
        Check.argument("wrong one between", () -> x.text(Sample.word("aa aa")));
        Check.same("no terms of wrong ones", 0, x.told(0));
    }

    private static void mostTerms() {
        AggregateRows x = new AggregateRows();
        x.text(Sample.word("abc"));
        for (int n = 1; n < 60; n++) {
            Check.same("term " + n, n, x.number(n, n % 4));
        }
        Check.state("number 61", () -> x.number(60, 0));
        Check.state("number 61 by its scale", () -> x.number(59, 2));
        Check.state("text 61", () -> x.text(Sample.word("ab")));
        Check.same("a known number", 59, x.number(59, 3));
        Check.same("a known text", 0, x.text(Sample.word("abc")));
        Check.same("still 60", 60, x.told(0));
        Check.argument("no term 60", () -> x.row(0, 60, 0));
        Check.same("the last term serves", 1, x.row(0, 59, 59));
    }

    private static void mostTermsWithWrongOnes() {
        AggregateRows x = new AggregateRows();
        Sample.fillTerms(x);
        Check.argument("wrong units before too many", () -> x.number(1000001, 0));
        Check.argument("wrong scale before too many", () -> x.number(0, 4));
        Check.argument("wrong text before too many", () -> x.text(0));
        Check.same("still 60", 60, x.told(0));
    }
}
