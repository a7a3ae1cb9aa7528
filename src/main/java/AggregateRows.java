/** Rows of keys and values, put together by groups. */
public final class AggregateRows {
    public static final int NONE = -1;

    private static final int MOST_TERMS = 60;
    private static final int MOST_ROWS = 60;
    private static final int MOST_UNITS = 1000000;
    private static final int MOST_SCALE = 3;
    private static final int LAST_PART = 2;
    private static final int FIRST_SEPARATOR = 32;
    private static final int LAST_SEPARATOR = 126;
    private static final long FARTHEST_UPPER = 1000000000L;
    private static final long GREATEST_LOWER = 1000000L;

    private static final int NO_SEPARATOR = 0;
    private static final int LONGEST_JOIN = 80;
    /** The text of -1000000 with a scale of 1 to 3. */
    private static final int LONGEST_TERM = 9;

    private static final int BY_TERM = 0;
    private static final int BY_EQUAL = 1;
    private static final int BY_NOTHING = 2;

    private static final int COUNT = 0;
    private static final int SUM = 1;
    private static final int MEAN = 2;
    private static final int LEAST = 3;
    private static final int GREATEST = 4;
    private static final int FIRST = 5;
    private static final int JOIN = 6;
    private static final int OWN = 7;

    private static final int SPAN = 0;
    private static final int MIDDLE = 1;
    private static final int SHARE = 2;

    private static final int A_NUMBER = 0;
    private static final int A_TEXT = 1;
    private static final int AN_ERROR = 2;
    private static final int NOTHING = 3;

    private static final int NO_REASON = 0;
    private static final int TEXT_AMONG_NUMBERS = 1;
    private static final int TEXT_TOO_LONG = 2;
    private static final int SHARE_OF_NONE = 3;

    private static final int BELOW = 0;
    private static final int JUST = 1;
    private static final int ABOVE = 2;

    private static final int TOLD_TERMS = 0;
    private static final int TOLD_ROWS = 1;
    private static final int TOLD_GROUPS = 2;

    /** Sums are kept in thousandths, so that every scale fits without a rest. */
    private static final long THOUSAND = 1000L;

    private final Terms terms = new Terms();
    private final RowTable table = new RowTable();
    private final Results results = new Results();
    private final Values values = new Values();
    private final int[] groupOfRow = new int[MOST_ROWS];
    private int grouping = BY_TERM;
    private int between = NO_SEPARATOR;
    private int ownType = SPAN;

    public AggregateRows() {
    }

    public int number(int units, int scale) throws IllegalArgumentException, IllegalStateException {
        if (units < -MOST_UNITS || units > MOST_UNITS || scale < 0 || scale > MOST_SCALE) {
            throw new IllegalArgumentException("no such number");
        }
        return termOf(Terms.NO_LETTERS, units, scale);
    }

    public int text(long letters) throws IllegalArgumentException, IllegalStateException {
        long aligned = Terms.aligned(letters);
        if (aligned == Terms.NO_LETTERS) {
            throw new IllegalArgumentException("no small letters");
        }
        return termOf(aligned, 0, 0);
    }

    public int row(int part, int key, int value) throws IllegalArgumentException, IllegalStateException {
        boolean partIsTold = part >= 0 && part <= LAST_PART;
        boolean valueIsTold = value == NONE || terms.has(value);
        if (!partIsTold || !terms.has(key) || !valueIsTold) {
            throw new IllegalArgumentException("no such part or term");
        }
        if (table.isFull()) {
            throw new IllegalStateException("too many rows");
        }
        table.add(part, key, value);
        return table.count();
    }

    public int by(int how) throws IllegalArgumentException {
        if (how < BY_TERM || how > BY_NOTHING) {
            throw new IllegalArgumentException("no such grouping");
        }
        int before = grouping;
        grouping = how;
        return before;
    }

    public int separator(int c) throws IllegalArgumentException {
        if (c != NO_SEPARATOR && (c < FIRST_SEPARATOR || c > LAST_SEPARATOR)) {
            throw new IllegalArgumentException("no such separator");
        }
        int before = between;
        between = c;
        return before;
    }

    public int own(int type) throws IllegalArgumentException {
        if (type < SPAN || type > SHARE) {
            throw new IllegalArgumentException("no such type");
        }
        int before = ownType;
        ownType = type;
        return before;
    }

    public int run(int kind, boolean distinct) throws IllegalArgumentException {
        if (kind < COUNT || kind > OWN) {
            throw new IllegalArgumentException("no such kind");
        }
        makeGroups();
        for (int group = 0; group < results.count(); group++) {
            pickValues(group, distinct);
            reckon(group, kind);
        }
        return results.count();
    }

    public int key(int group) throws IndexOutOfBoundsException {
        needGroup(group);
        return results.firstKey(group);
    }

    public int rows(int group) throws IndexOutOfBoundsException {
        needGroup(group);
        return results.rowCount(group);
    }

    public int sort(int group) throws IndexOutOfBoundsException {
        needGroup(group);
        return results.sortOf(group);
    }

    public int why(int group) throws IndexOutOfBoundsException {
        needGroup(group);
        return results.reason(group);
    }

    public long value(int group, int part) throws IndexOutOfBoundsException, IllegalArgumentException {
        needGroup(group);
        if (part < 0 || part > 1) {
            throw new IllegalArgumentException("no such part of a value");
        }
        return part == 0 ? results.upper(group) : results.lower(group);
    }

    public int term(int group) throws IndexOutOfBoundsException {
        needGroup(group);
        return results.termOfResult(group);
    }

    public int length(int group) throws IndexOutOfBoundsException {
        needGroup(group);
        return results.textLength(group);
    }

    public int charAt(int group, int i) throws IndexOutOfBoundsException {
        needGroup(group);
        if (i < 0 || i >= results.textLength(group)) {
            throw new IndexOutOfBoundsException("no such character");
        }
        return results.character(group, i);
    }

    public boolean having(int group, int op, long upper, long lower)
            throws IndexOutOfBoundsException, IllegalArgumentException {
        needGroup(group);
        boolean upperIsTold = upper >= -FARTHEST_UPPER && upper <= FARTHEST_UPPER;
        boolean lowerIsTold = lower >= 1 && lower <= GREATEST_LOWER;
        if (op < BELOW || op > ABOVE || !upperIsTold || !lowerIsTold) {
            throw new IllegalArgumentException("no such bound");
        }
        if (results.sortOf(group) != A_NUMBER) {
            return false;
        }
        long result = results.upper(group) * lower;
        long bound = upper * results.lower(group);
        return op == BELOW ? result < bound : op == JUST ? result == bound : result > bound;
    }

    public int told(int what) throws IllegalArgumentException {
        if (what < TOLD_TERMS || what > TOLD_GROUPS) {
            throw new IllegalArgumentException("nothing to tell");
        }
        return what == TOLD_TERMS ? terms.count() : what == TOLD_ROWS ? table.count() : results.count();
    }

    private int termOf(long letters, int units, int scale) {
        int known = terms.find(letters, units, scale);
        if (known != NONE) {
            return known;
        }
        if (terms.isFull()) {
            throw new IllegalStateException("too many terms");
        }
        return terms.add(letters, units, scale);
    }

    private void needGroup(int group) {
        if (group < 0 || group >= results.count()) {
            throw new IndexOutOfBoundsException("no such group");
        }
    }

    private void makeGroups() {
        results.clear();
        for (int place = 0; place < table.count(); place++) {
            int group = groupOfKey(table.keyAt(place));
            if (group == results.count()) {
                results.open(table.keyAt(place));
            }
            results.addRow(group);
            groupOfRow[place] = group;
        }
        if (grouping == BY_NOTHING && results.count() == 0) {
            results.open(NONE);
        }
    }

    /** The group that a key belongs to; the number of a new group if it belongs to none. */
    private int groupOfKey(int key) {
        for (int group = 0; group < results.count(); group++) {
            if (belongTogether(results.firstKey(group), key)) {
                return group;
            }
        }
        return results.count();
    }

    private boolean belongTogether(int oneKey, int otherKey) {
        switch (grouping) {
            case BY_TERM:
                return oneKey == otherKey;
            case BY_EQUAL:
                return terms.order(oneKey, otherKey) == 0;
            default:
                return true;
        }
    }

    private void pickValues(int group, boolean distinct) {
        values.clear();
        for (int place = 0; place < table.count(); place++) {
            int term = table.valueAt(place);
            if (groupOfRow[place] == group && term != NONE && !(distinct && values.haveEqual(terms, term))) {
                values.add(term);
            }
        }
    }

    private void reckon(int group, int kind) {
        boolean needsNumbers = kind == SUM || kind == MEAN || kind == OWN;
        if (needsNumbers && values.haveText(terms)) {
            results.setError(group, TEXT_AMONG_NUMBERS);
            return;
        }
        switch (kind) {
            case COUNT:
                results.setNumber(group, values.count(), 1);
                break;
            case SUM:
                results.setNumber(group, values.sum(terms), THOUSAND);
                break;
            case MEAN:
                results.setNumber(group, values.sum(terms), THOUSAND * Math.max(1, values.count()));
                break;
            case LEAST:
                setTerm(group, values.least(terms));
                break;
            case GREATEST:
                setTerm(group, values.greatest(terms));
                break;
            case FIRST:
                setTerm(group, values.first());
                break;
            case JOIN:
                join(group);
                break;
            default:
                reckonOwn(group);
                break;
        }
    }

    private void reckonOwn(int group) {
        switch (ownType) {
            case SPAN:
                results.setNumber(group, values.span(terms), THOUSAND);
                break;
            case MIDDLE:
                setTerm(group, values.middle(terms));
                break;
            default:
                reckonShare(group);
                break;
        }
    }

    private void reckonShare(int group) {
        if (values.count() == 0) {
            results.setError(group, SHARE_OF_NONE);
        } else {
            results.setNumber(group, values.sumAboveZero(terms), THOUSAND * values.count());
        }
    }

    private void setTerm(int group, int term) {
        if (term == NONE) {
            return;
        }
        if (terms.isText(term)) {
            results.beginText(group);
            terms.write(term, results);
            results.endText(group);
        } else {
            results.setNumber(group, terms.thousandths(term), THOUSAND);
        }
        results.setTermOfResult(group, term);
    }

    private void join(int group) {
        results.beginText(group);
        for (int i = 0; i < values.count() && results.openLength(group) <= LONGEST_JOIN; i++) {
            if (i > 0 && between != NO_SEPARATOR) {
                results.put((char) between);
            }
            terms.write(values.at(i), results);
        }
        if (results.openLength(group) > LONGEST_JOIN) {
            results.setError(group, TEXT_TOO_LONG);
        } else {
            results.endText(group);
        }
    }

    /** Numbers and texts, each of them once. */
    private static final class Terms {
        /** The letters of a number: it has none. */
        private static final long NO_LETTERS = 0L;
        private static final int BYTE_BITS = 8;
        private static final int BYTE_MASK = 255;
        private static final int HIGHEST_BYTE = 56;
        private static final int[] TENS = {1, 10, 100, 1000, 10000, 100000, 1000000};

        private final long[] letters = new long[MOST_TERMS];
        private final int[] units = new int[MOST_TERMS];
        private final int[] scales = new int[MOST_TERMS];
        private int count = 0;

        /**
         * The letters moved up to the highest byte, so that words compare as their texts do;
         * NO_LETTERS if there is none, or anything that is no small letter.
         */
        static long aligned(long word) {
            long moved = NO_LETTERS;
            int free = HIGHEST_BYTE;
            for (int shift = HIGHEST_BYTE; shift >= 0; shift -= BYTE_BITS) {
                long letter = (word >>> shift) & BYTE_MASK;
                if (letter != 0) {
                    if (letter < 'a' || letter > 'z') {
                        return NO_LETTERS;
                    }
                    moved |= letter << free;
                    free -= BYTE_BITS;
                }
            }
            return moved;
        }

        int count() {
            return count;
        }

        boolean isFull() {
            return count >= MOST_TERMS;
        }

        boolean has(int term) {
            return term >= 0 && term < count;
        }

        int find(long someLetters, int someUnits, int someScale) {
            for (int term = 0; term < count; term++) {
                if (letters[term] == someLetters && units[term] == someUnits && scales[term] == someScale) {
                    return term;
                }
            }
            return NONE;
        }

        int add(long newLetters, int newUnits, int newScale) {
            int term = count;
            letters[term] = newLetters;
            units[term] = newUnits;
            scales[term] = newScale;
            count++;
            return term;
        }

        boolean isText(int term) {
            return letters[term] != NO_LETTERS;
        }

        long thousandths(int term) {
            return (long) units[term] * TENS[MOST_SCALE - scales[term]];
        }

        /** By ORDER: below 0, 0 if they are EQUAL, above 0. A number's letters are below any text's. */
        int order(int one, int other) {
            if (letters[one] != letters[other]) {
                return letters[one] < letters[other] ? -1 : 1;
            }
            return Long.compare(thousandths(one), thousandths(other));
        }

        void write(int term, Results out) {
            if (isText(term)) {
                writeLetters(letters[term], out);
            } else {
                writeNumber(units[term], scales[term], out);
            }
        }

        private static void writeLetters(long word, Results out) {
            for (int shift = HIGHEST_BYTE; shift >= 0; shift -= BYTE_BITS) {
                long letter = (word >>> shift) & BYTE_MASK;
                if (letter != 0) {
                    out.put((char) letter);
                }
            }
        }

        private static void writeNumber(int someUnits, int scale, Results out) {
            if (someUnits < 0) {
                out.put('-');
            }
            int digits = Math.abs(someUnits);
            boolean begun = false;
            for (int place = TENS.length - 1; place >= 0; place--) {
                int digit = digits / TENS[place] % 10;
                begun = begun || digit != 0 || place == scale;
                if (begun) {
                    out.put((char) ('0' + digit));
                }
                if (place == scale && scale > 0) {
                    out.put('.');
                }
            }
        }
    }

    /** The rows as they stand: by parts, in a part as they came. */
    private static final class RowTable {
        private final int[] parts = new int[MOST_ROWS];
        private final int[] keys = new int[MOST_ROWS];
        private final int[] values = new int[MOST_ROWS];
        private int count = 0;

        int count() {
            return count;
        }

        boolean isFull() {
            return count >= MOST_ROWS;
        }

        int keyAt(int place) {
            return keys[place];
        }

        int valueAt(int place) {
            return values[place];
        }

        void add(int part, int key, int value) {
            int place = count;
            for (; place > 0 && parts[place - 1] > part; place--) {
                parts[place] = parts[place - 1];
                keys[place] = keys[place - 1];
                values[place] = values[place - 1];
            }
            parts[place] = part;
            keys[place] = key;
            values[place] = value;
            count++;
        }
    }

    /** The values of one group that a run goes over, in their order. */
    private static final class Values {
        private final int[] picked = new int[MOST_ROWS];
        private int count = 0;

        void clear() {
            count = 0;
        }

        void add(int term) {
            picked[count] = term;
            count++;
        }

        int count() {
            return count;
        }

        int at(int i) {
            return picked[i];
        }

        boolean haveEqual(Terms terms, int term) {
            for (int i = 0; i < count; i++) {
                if (terms.order(picked[i], term) == 0) {
                    return true;
                }
            }
            return false;
        }

        boolean haveText(Terms terms) {
            for (int i = 0; i < count; i++) {
                if (terms.isText(picked[i])) {
                    return true;
                }
            }
            return false;
        }

        long sum(Terms terms) {
            long total = 0;
            for (int i = 0; i < count; i++) {
                total += terms.thousandths(picked[i]);
            }
            return total;
        }

        long sumAboveZero(Terms terms) {
            long total = 0;
            for (int i = 0; i < count; i++) {
                total += Math.max(0, terms.thousandths(picked[i]));
            }
            return total;
        }

        int first() {
            return count > 0 ? picked[0] : NONE;
        }

        int least(Terms terms) {
            int best = first();
            for (int i = 1; i < count; i++) {
                if (terms.order(picked[i], best) < 0) {
                    best = picked[i];
                }
            }
            return best;
        }

        int greatest(Terms terms) {
            int best = first();
            for (int i = 1; i < count; i++) {
                if (terms.order(picked[i], best) > 0) {
                    best = picked[i];
                }
            }
            return best;
        }

        long span(Terms terms) {
            return count > 0 ? terms.thousandths(greatest(terms)) - terms.thousandths(least(terms)) : 0;
        }

        int middle(Terms terms) {
            for (int i = 0; i < count; i++) {
                if (howManyBefore(terms, i) == (count - 1) / 2) {
                    return picked[i];
                }
            }
            return NONE;
        }

        /** How many would stand before value i, were they sorted with EQUAL ones as they stand. */
        private int howManyBefore(Terms terms, int i) {
            int before = 0;
            for (int j = 0; j < count; j++) {
                int order = terms.order(picked[j], picked[i]);
                if (order < 0 || order == 0 && j < i) {
                    before++;
                }
            }
            return before;
        }
    }

    /** What the latest run tells of its groups. */
    private static final class Results {
        /** Euclid's way takes fewer steps than this for any two longs. */
        private static final int MOST_STEPS = 100;
        /** Room for all texts, also those given up: each row gives one term and one separator at the most. */
        private static final int MOST_CHARACTERS = MOST_ROWS * (LONGEST_TERM + 1);

        private final int[] firstKeys = new int[MOST_ROWS];
        private final int[] rowCounts = new int[MOST_ROWS];
        private final int[] sorts = new int[MOST_ROWS];
        private final int[] reasons = new int[MOST_ROWS];
        private final long[] uppers = new long[MOST_ROWS];
        private final long[] lowers = new long[MOST_ROWS];
        private final int[] terms = new int[MOST_ROWS];
        private final int[] starts = new int[MOST_ROWS];
        private final int[] lengths = new int[MOST_ROWS];
        private final char[] characters = new char[MOST_CHARACTERS];
        private int written = 0;
        private int count = 0;

        void clear() {
            count = 0;
            written = 0;
        }

        /** One group more, with nothing as its result. */
        void open(int firstKey) {
            firstKeys[count] = firstKey;
            rowCounts[count] = 0;
            sorts[count] = NOTHING;
            reasons[count] = NO_REASON;
            uppers[count] = 0;
            lowers[count] = 1;
            terms[count] = NONE;
            starts[count] = 0;
            lengths[count] = 0;
            count++;
        }

        void addRow(int group) {
            rowCounts[group]++;
        }

        void setNumber(int group, long upper, long lower) {
            long divisor = commonDivisor(Math.abs(upper), lower);
            sorts[group] = A_NUMBER;
            uppers[group] = upper / divisor;
            lowers[group] = lower / divisor;
        }

        private static long commonDivisor(long one, long other) {
            long greater = one;
            long smaller = other;
            for (int step = 0; step < MOST_STEPS && smaller != 0; step++) {
                long rest = greater % smaller;
                greater = smaller;
                smaller = rest;
            }
            return Math.max(1, greater);
        }

        void setError(int group, int reason) {
            sorts[group] = AN_ERROR;
            reasons[group] = reason;
        }

        void setTermOfResult(int group, int term) {
            terms[group] = term;
        }

        void beginText(int group) {
            starts[group] = written;
        }

        void put(char c) {
            if (written < MOST_CHARACTERS) {
                characters[written] = c;
                written++;
            }
        }

        /** How long the text is that has been begun and not ended yet. */
        int openLength(int group) {
            return written - starts[group];
        }

        void endText(int group) {
            sorts[group] = A_TEXT;
            lengths[group] = openLength(group);
        }

        int count() {
            return count;
        }

        int firstKey(int group) {
            return firstKeys[group];
        }

        int rowCount(int group) {
            return rowCounts[group];
        }

        int sortOf(int group) {
            return sorts[group];
        }

        int reason(int group) {
            return reasons[group];
        }

        long upper(int group) {
            return uppers[group];
        }

        long lower(int group) {
            return lowers[group];
        }

        int termOfResult(int group) {
            return terms[group];
        }

        int textLength(int group) {
            return lengths[group];
        }

        int character(int group, int i) {
            return characters[starts[group] + i];
        }
    }
}
