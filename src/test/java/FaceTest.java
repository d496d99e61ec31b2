import java.lang.reflect.Constructor;
import java.lang.reflect.Field;
import java.lang.reflect.Method;
import java.lang.reflect.Modifier;
import java.util.Arrays;
import java.util.TreeSet;

/** The document's face, and nothing beside it that could be seen from outside. */
public final class FaceTest {
    private static final String[] FACE = {
        "boolean term(int, int, int) throws IllegalArgumentException",
        "int basis()",
        "int member(int, int) throws IndexOutOfBoundsException, IllegalArgumentException",
        "boolean put(int, int, int) throws IndexOutOfBoundsException, IllegalArgumentException",
        "int at(int, int) throws IndexOutOfBoundsException",
        "int check()",
        "int squares() throws IllegalStateException",
        "long weight(int, int) throws IllegalStateException, IndexOutOfBoundsException, IllegalArgumentException",
        "long row(int, int, int) throws IllegalStateException, IndexOutOfBoundsException, IllegalArgumentException",
        "int free()",
        "int find(int) throws IllegalArgumentException",
        "long value(int, int) throws IllegalArgumentException",
        "int count(int)",
        "void clear()",
    };

    public static void main(String[] args) {
        Expect expect = new Expect();
        expect.yes("public", Modifier.isPublic(SquareSums.class.getModifiers()));
        expect.yes("final", Modifier.isFinal(SquareSums.class.getModifiers()));
        methods(expect);
        constructors(expect);
        for (Field field : SquareSums.class.getDeclaredFields()) {
            expect.yes("private " + field.getName(), Modifier.isPrivate(field.getModifiers()));
        }
        for (Class<?> inside : SquareSums.class.getDeclaredClasses()) {
            int how = inside.getModifiers();
            expect.yes("static " + inside.getName(), Modifier.isStatic(how));
            expect.no("public " + inside.getName(), Modifier.isPublic(how) || Modifier.isProtected(how));
        }
        expect.end();
    }

    private static void methods(Expect expect) {
        TreeSet<String> seen = new TreeSet<>();
        TreeSet<String> names = new TreeSet<>();
        for (Method method : SquareSums.class.getDeclaredMethods()) {
            if (!Modifier.isPrivate(method.getModifiers())) {
                seen.add(signature(method));
                names.add(method.getName());
                expect.yes("public " + method, Modifier.isPublic(method.getModifiers()));
                expect.no("static " + method, Modifier.isStatic(method.getModifiers()));
            }
        }
        for (Method method : SquareSums.class.getDeclaredMethods()) {
            if (Modifier.isPrivate(method.getModifiers())) {
                expect.no("name of a public one: " + method, names.contains(method.getName()));
            }
        }
        expect.text("methods", new TreeSet<>(Arrays.asList(FACE)).toString(), seen.toString());
    }

    private static void constructors(Expect expect) {
        Constructor<?>[] all = SquareSums.class.getDeclaredConstructors();
        expect.same("constructors", 1, all.length);
        expect.text("constructor", "public SquareSums(int)", all[0].toString());
    }

    private static String signature(Method method) {
        StringBuilder text = new StringBuilder();
        text.append(method.getReturnType().getSimpleName()).append(' ').append(method.getName());
        text.append('(').append(names(method.getParameterTypes())).append(')');
        if (method.getExceptionTypes().length > 0) {
            text.append(" throws ").append(names(method.getExceptionTypes()));
        }
        return text.toString();
    }

    private static String names(Class<?>[] types) {
        StringBuilder text = new StringBuilder();
        for (Class<?> type : types) {
            text.append(text.length() == 0 ? "" : ", ").append(type.getSimpleName());
        }
        return text.toString();
    }
}
