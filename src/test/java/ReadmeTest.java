import java.io.IOException;
import java.lang.reflect.InvocationTargetException;
import java.lang.reflect.Method;
import java.nio.file.Files;
import java.nio.file.Path;
import java.util.ArrayList;
import java.util.HashMap;
import java.util.List;
import java.util.Map;
import java.util.TreeSet;
import java.util.regex.Matcher;
import java.util.regex.Pattern;

/** The calls of README.md's examples, made in their order, answer what stands behind them there. */
public final class ReadmeTest {
    private static final Path README = Path.of("README.md");
    private static final Pattern EXAMPLE = Pattern.compile("(?ms)^```java\n(.*?)^```$");
    private static final Pattern NEW = Pattern.compile("SquareSums (\\w+) = new SquareSums\\((-?\\d+)\\);");
    private static final Pattern CALLS = Pattern.compile("((?:\\w+\\.\\w+\\([^()]*\\); *)+)(?://(.*))?");
    private static final Pattern CALL = Pattern.compile("(\\w+)\\.(\\w+)\\(([^()]*)\\);");

    private final Expect expect = new Expect();
    private final Map<String, SquareSums> objects = new HashMap<>();
    private final Map<String, Method> face = new HashMap<>();
    private final TreeSet<String> called = new TreeSet<>();

    public static void main(String[] args) throws IOException, IllegalAccessException {
        new ReadmeTest().run(Files.readString(README));
    }

    private void run(String text) throws IllegalAccessException {
        for (Method method : SquareSums.class.getMethods()) {
            if (method.getDeclaringClass() == SquareSums.class) {
                face.put(method.getName(), method);
            }
        }
        Matcher examples = EXAMPLE.matcher(text);
        while (examples.find()) {
            for (String line : examples.group(1).split("\n")) {
                look(line.strip());
            }
        }
        expect.text("methods in the examples", new TreeSet<>(face.keySet()).toString(), called.toString());
        expect.yes("the command that runs the tests", text.contains("```sh\n.ci/run\n```"));
        expect.end();
    }

    private void look(String line) throws IllegalAccessException {
        Matcher made = NEW.matcher(line);
        Matcher calls = CALLS.matcher(line);
        if (made.matches()) {
            objects.put(made.group(1), new SquareSums(Integer.parseInt(made.group(2))));
        } else if (calls.matches()) {
            compare(line, calls.group(1), calls.group(2));
        } else {
            expect.text("a line of an example", "an object made, or calls", line);
        }
    }

    private void compare(String line, String calls, String comment) throws IllegalAccessException {
        List<String> answers = new ArrayList<>();
        Matcher call = CALL.matcher(calls);
        while (call.find()) {
            String answer = answer(call.group(1), call.group(2), call.group(3));
            if (!answer.isEmpty()) {
                answers.add(answer);
            }
        }
        if (!answers.isEmpty()) {
            String due = comment == null ? "" : comment.split(":")[0].strip();
            expect.text("README.md: " + line, due, String.join(", ", answers));
        }
    }

    /** Empty for a method that answers nothing. */
    private String answer(String object, String name, String arguments) throws IllegalAccessException {
        if (!objects.containsKey(object) || !face.containsKey(name)) {
            return "no such object or method";
        }
        called.add(name);
        Method method = face.get(name);
        try {
            Object answer = method.invoke(objects.get(object), numbers(arguments));
            return method.getReturnType() == void.class ? "" : answer.toString();
        } catch (InvocationTargetException e) {
            return e.getCause().getClass().getSimpleName();
        }
    }

    private static Object[] numbers(String arguments) {
        if (arguments.isBlank()) {
            return new Object[0];
        }
        String[] each = arguments.split(",");
        Object[] numbers = new Object[each.length];
        for (int n = 0; n < each.length; n++) {
            numbers[n] = Integer.valueOf(each[n].strip());
        }
        return numbers;
    }
}
