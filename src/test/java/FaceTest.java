import java.lang.reflect.Constructor;
import java.lang.reflect.Field;
import java.lang.reflect.Method;
import java.lang.reflect.Modifier;
import java.util.Set;
import java.util.TreeSet;

/** The public face of the document, and no member more that can be seen from outside; no state outside of objects. */
public final class FaceTest {
    private static final String[] FACE = {
        "public static final int AggregateRows.NONE",
        "public AggregateRows()",
        "public int AggregateRows.number(int,int) throws java.lang.IllegalArgumentException,"
            + "java.lang.IllegalStateException",
        "public int AggregateRows.text(long) throws java.lang.IllegalArgumentException,"
            + "java.lang.IllegalStateException",
        "public int AggregateRows.row(int,int,int) throws java.lang.IllegalArgumentException,"
            + "java.lang.IllegalStateException",
        "public int AggregateRows.by(int) throws java.lang.IllegalArgumentException",
        "public int AggregateRows.separator(int) throws java.lang.IllegalArgumentException",
        "public int AggregateRows.own(int) throws java.lang.IllegalArgumentException",
        "public int AggregateRows.run(int,boolean) throws java.lang.IllegalArgumentException",
        "public int AggregateRows.key(int) throws java.lang.IndexOutOfBoundsException",
        "public int AggregateRows.rows(int) throws java.lang.IndexOutOfBoundsException",
        "public int AggregateRows.sort(int) throws java.lang.IndexOutOfBoundsException",
        "public int AggregateRows.why(int) throws java.lang.IndexOutOfBoundsException",
        "public long AggregateRows.value(int,int) throws java.lang.IndexOutOfBoundsException,"
            + "java.lang.IllegalArgumentException",
        "public int AggregateRows.term(int) throws java.lang.IndexOutOfBoundsException",
        "public int AggregateRows.length(int) throws java.lang.IndexOutOfBoundsException",
        "public int AggregateRows.charAt(int,int) throws java.lang.IndexOutOfBoundsException",
        "public boolean AggregateRows.having(int,int,long,long) throws java.lang.IndexOutOfBoundsException,"
            + "java.lang.IllegalArgumentException",
        "public int AggregateRows.told(int) throws java.lang.IllegalArgumentException",
    };

    public static void main(String[] args) {
        Check.same("the face", String.join("\n", new TreeSet<>(Set.of(FACE))), String.join("\n", visible()));
        Check.same("the class", Modifier.PUBLIC | Modifier.FINAL, AggregateRows.class.getModifiers());
        for (Class<?> inside : AggregateRows.class.getDeclaredClasses()) {
            int modifiers = inside.getModifiers();
            Check.same(inside + " is static", true, Modifier.isStatic(modifiers));
            Check.same(inside + " is for the program alone", false,
                    Modifier.isPublic(modifiers) || Modifier.isProtected(modifiers));
            namesOfTheirOwn(inside);
            noStaticState(inside);
        }
        namesOfTheirOwn(AggregateRows.class);
        noStaticState(AggregateRows.class);
        Check.end();
    }

    /** LANGUAGE.md, rule 1: no other method bears the name of one of the face. */
    private static void namesOfTheirOwn(Class<?> some) {
        Set<String> names = new TreeSet<>();
        for (Method method : AggregateRows.class.getMethods()) {
            names.add(method.getName());
        }
        for (Method method : some.getDeclaredMethods()) {
            boolean ofTheFace = some == AggregateRows.class && Modifier.isPublic(method.getModifiers());
            Check.same(method + " has a name of its own", true, ofTheFace || !names.contains(method.getName()));
        }
    }

    /** LANGUAGE.md, rule 5. */
    private static void noStaticState(Class<?> some) {
        for (Field field : some.getDeclaredFields()) {
            int modifiers = field.getModifiers();
            Check.same(field + " is no static state", true,
                    !Modifier.isStatic(modifiers) || Modifier.isFinal(modifiers));
        }
    }

    private static Set<String> visible() {
        Set<String> seen = new TreeSet<>();
        for (Field field : AggregateRows.class.getDeclaredFields()) {
            add(seen, field.getModifiers(), field.toGenericString());
        }
        for (Constructor<?> constructor : AggregateRows.class.getDeclaredConstructors()) {
            add(seen, constructor.getModifiers(), constructor.toGenericString());
        }
        for (Method method : AggregateRows.class.getDeclaredMethods()) {
            add(seen, method.getModifiers(), method.toGenericString());
        }
        return seen;
    }

    private static void add(Set<String> seen, int modifiers, String member) {
        if (!Modifier.isPrivate(modifiers)) {
            seen.add(member);
        }
    }
}
