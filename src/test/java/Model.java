import java.math.BigDecimal;
import java.math.BigInteger;
import java.util.ArrayList;
import java.util.Comparator;
import java.util.LinkedHashMap;
import java.util.List;
import java.util.Map;

/** The document said again with the Java library's own numbers, texts and lists, to compare answers with. */
final class Model {
    /** A result: what tells of it, with null for what it has not. */
    private static final class Result {
        Integer key = AggregateRows.NONE;
        int rows = 0;
        BigInteger upper;
        BigInteger lower;
        String text;
        int reason = 0;
        int term = AggregateRows.NONE;
    }

    private record Row(int part, int key, int value) {
    }

    /** BigDecimal for a number, String for a text; a BigDecimal's equals looks at the scale, too. */
    private final List<Object> terms = new ArrayList<>();
    private final List<Row> rows = new ArrayList<>();
    private List<Result> results = new ArrayList<>();
    private int how = 0;
    private int separator = 0;
    private int own = 0;

    int number(int units, int scale) {
        argument(Math.abs((long) units) <= 1000000 && scale >= 0 && scale <= 3);
        return term(BigDecimal.valueOf(units, scale));
    }

    int text(long letters) {
        StringBuilder text = new StringBuilder();
        for (byte b : BigInteger.valueOf(letters).toByteArray()) {
            if (b != 0) {
                text.append((char) b);
            }
        }
        argument(letters > 0 && text.toString().matches("[a-z]{1,8}"));
        return term(text.toString());
    }

    private int term(Object term) {
        if (!terms.contains(term)) {
            state(terms.size() < 60);
            terms.add(term);
        }
        return terms.indexOf(term);
    }

    int row(int part, int key, int value) {
        argument(part >= 0 && part <= 2);
        argument(key >= 0 && key < terms.size());
        argument(value >= -1 && value < terms.size());
        state(rows.size() < 60);
        rows.add(new Row(part, key, value));
        return rows.size();
    }

    int by(int newHow) {
        argument(newHow >= 0 && newHow <= 2);
        int was = how;
        how = newHow;
        return was;
    }

    int separator(int c) {
        argument(c == 0 || c >= 32 && c <= 126);
        int was = separator;
        separator = c;
        return was;
    }

    int own(int type) {
        argument(type >= 0 && type <= 2);
        int was = own;
        own = type;
        return was;
    }

    int run(int kind, boolean distinct) {
        argument(kind >= 0 && kind <= 7);
        Map<Object, List<Row>> groups = new LinkedHashMap<>();
        if (how == 2) {
            groups.put("", new ArrayList<>());
        }
        rows.stream().sorted(Comparator.comparingInt(Row::part)).forEach(row -> {
            Object mark = how == 0 ? (Object) row.key : how == 1 ? mark(row.key) : "";
            groups.computeIfAbsent(mark, m -> new ArrayList<>()).add(row);
        });
        results = new ArrayList<>();
        for (List<Row> group : groups.values()) {
            Result result = reckon(kind, valuesOf(group, distinct));
            result.rows = group.size();
            result.key = group.isEmpty() ? AggregateRows.NONE : group.get(0).key;
            results.add(result);
        }
        return results.size();
    }

    /** The same for EQUAL terms, and for them alone. */
    private Object mark(int term) {
        return terms.get(term) instanceof BigDecimal number ? number.stripTrailingZeros() : terms.get(term);
    }

    private List<Integer> valuesOf(List<Row> group, boolean distinct) {
        Map<Object, Integer> values = new LinkedHashMap<>();
        for (Row row : group) {
            if (row.value != AggregateRows.NONE) {
                Object mark = distinct ? mark(row.value) : Integer.valueOf(values.size());
                values.putIfAbsent(mark, row.value);
            }
        }
        return new ArrayList<>(values.values());
    }

    private Result reckon(int kind, List<Integer> values) {
        if ((kind == 1 || kind == 2 || kind == 7) && values.stream().anyMatch(v -> terms.get(v) instanceof String)) {
            return error(1);
        }
        BigDecimal sum = kind == 1 || kind == 2 ? sumOf(numbers(values)) : BigDecimal.ZERO;
        List<Integer> sorted = new ArrayList<>(values);
        sorted.sort(this::order);
        switch (kind) {
            case 0:
                return numberResult(BigDecimal.valueOf(values.size()), 1);
            case 1:
                return numberResult(sum, 1);
            case 2:
                return numberResult(sum, values.isEmpty() ? 1 : values.size());
            case 3:
                return values.isEmpty() ? new Result() : termResult(sorted.get(0));
            case 4:
                return values.isEmpty() ? new Result() : termResult(firstEqual(values, sorted.get(sorted.size() - 1)));
            case 5:
                return values.isEmpty() ? new Result() : termResult(values.get(0));
            case 6:
                return joined(values);
            default:
                return ownResult(values, sorted);
        }
    }

    private Result ownResult(List<Integer> values, List<Integer> sorted) {
        List<BigDecimal> numbers = numbers(sorted);
        if (own == 0) {
            BigDecimal none = BigDecimal.ZERO;
            return numberResult(numbers.isEmpty() ? none : numbers.get(numbers.size() - 1).subtract(numbers.get(0)), 1);
        }
        if (own == 1) {
            return values.isEmpty() ? new Result() : termResult(sorted.get((sorted.size() - 1) / 2));
        }
        if (numbers.isEmpty()) {
            return error(3);
        }
        return numberResult(sumOf(numbers.stream().filter(n -> n.signum() > 0).toList()), numbers.size());
    }

    private Result joined(List<Integer> values) {
        String between = separator == 0 ? "" : String.valueOf((char) separator);
        List<String> texts = new ArrayList<>();
        for (int value : values) {
            texts.add(terms.get(value) instanceof BigDecimal n ? n.toPlainString() : (String) terms.get(value));
        }
        String text = String.join(between, texts);
        if (text.length() > 80) {
            return error(2);
        }
        Result result = new Result();
        result.text = text;
        return result;
    }

    private int order(int one, int other) {
        Object a = terms.get(one);
        Object b = terms.get(other);
        if (a instanceof BigDecimal m && b instanceof BigDecimal n) {
            return m.compareTo(n);
        }
        if (a instanceof String s && b instanceof String t) {
            return s.compareTo(t);
        }
        return a instanceof BigDecimal ? -1 : 1;
    }

    private int firstEqual(List<Integer> values, int term) {
        return values.stream().filter(v -> order(v, term) == 0).findFirst().orElseThrow();
    }

    private List<BigDecimal> numbers(List<Integer> values) {
        return values.stream().map(v -> (BigDecimal) terms.get(v)).toList();
    }

    private static BigDecimal sumOf(List<BigDecimal> numbers) {
        return numbers.stream().reduce(BigDecimal.ZERO, BigDecimal::add);
    }

    private static Result error(int reason) {
        Result result = new Result();
        result.reason = reason;
        return result;
    }

    private static Result numberResult(BigDecimal number, int by) {
        Result result = new Result();
        BigInteger upper = number.setScale(3).unscaledValue();
        BigInteger lower = BigInteger.valueOf(1000L * by);
        BigInteger common = upper.gcd(lower);
        result.upper = upper.divide(common);
        result.lower = lower.divide(common);
        return result;
    }

    private Result termResult(int term) {
        Result result = new Result();
        if (terms.get(term) instanceof BigDecimal number) {
            result = numberResult(number, 1);
        } else {
            result.text = (String) terms.get(term);
        }
        result.term = term;
        return result;
    }

    private Result result(int group) {
        index(group >= 0 && group < results.size());
        return results.get(group);
    }

    int key(int group) {
        return result(group).key;
    }

    int rows(int group) {
        return result(group).rows;
    }

    int sort(int group) {
        Result result = result(group);
        return result.upper != null ? 0 : result.text != null ? 1 : result.reason != 0 ? 2 : 3;
    }

    int why(int group) {
        return result(group).reason;
    }

    long value(int group, int part) {
        Result result = result(group);
        argument(part == 0 || part == 1);
        if (result.upper == null) {
            return part;
        }
        return (part == 0 ? result.upper : result.lower).longValueExact();
    }

    int term(int group) {
        return result(group).term;
    }

    int length(int group) {
        return result(group).text == null ? 0 : result(group).text.length();
    }

    int charAt(int group, int i) {
        index(i >= 0 && i < length(group));
        return result(group).text.charAt(i);
    }

    boolean having(int group, int op, long upper, long lower) {
        Result result = result(group);
        argument(op >= 0 && op <= 2);
        argument(upper >= -1000000000L && upper <= 1000000000L);
        argument(lower >= 1 && lower <= 1000000L);
        if (result.upper == null) {
            return false;
        }
        BigInteger left = result.upper.multiply(BigInteger.valueOf(lower));
        return left.compareTo(BigInteger.valueOf(upper).multiply(result.lower)) == op - 1;
    }

    int told(int what) {
        argument(what >= 0 && what <= 2);
        return what == 0 ? terms.size() : what == 1 ? rows.size() : results.size();
    }

    private static void argument(boolean told) {
        if (!told) {
            throw new IllegalArgumentException();
        }
    }

    private static void state(boolean room) {
        if (!room) {
            throw new IllegalStateException();
        }
    }

    private static void index(boolean there) {
        if (!there) {
            throw new IndexOutOfBoundsException();
        }
    }
}
