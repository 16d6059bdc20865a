import java.io.IOException;
import java.lang.reflect.InvocationTargetException;
import java.lang.reflect.Method;
import java.nio.file.DirectoryStream;
import java.nio.file.Files;
import java.nio.file.Path;
import java.util.HashMap;
import java.util.HashSet;
import java.util.Map;
import java.util.Set;
import java.util.regex.Matcher;
import java.util.regex.Pattern;

/**
 * What README.md shows of calls and answers is what the class answers: its Java lines are read and
 * carried out, each against the answer that stands behind it.
 */
public final class ReadmeTest {
    private static final Path README = Path.of("README.md");
    private static final Path TESTS = Path.of("src/test/java");
    private static final String NEW_OBJECT = "SeatProofs x = new SeatProofs();";
    /** What a call without an answer answers. */
    private static final String NOTHING = "nothing";
    private static final Pattern CALL =
            Pattern.compile("(?:int (\\w+) = )?x\\.(\\w+)\\(([^)]*)\\); +// (.*)");

    private final Due due = new Due();
    private final Map<String, Integer> names = new HashMap<>();
    private final Set<String> called = new HashSet<>();
    private SeatProofs x = new SeatProofs();

    public static void main(String[] args) throws IOException, IllegalAccessException {
        ReadmeTest t = new ReadmeTest();
        t.goThroughLines();
        t.everyCallIsShown();
        t.everyTestIsNamed();
        t.due.end();
    }

    private void goThroughLines() throws IOException, IllegalAccessException {
        boolean java = false;
        int number = 0;
        for (String line : Files.readAllLines(README)) {
            number++;
            due.part("README.md, line " + number);
            if (line.startsWith("```")) {
                java = line.equals("```java");
            } else if (java) {
                carryOut(line);
            }
        }
    }

    private void carryOut(String line) throws IllegalAccessException {
        if (line.equals(NEW_OBJECT)) {
            x = new SeatProofs();
            names.clear();
            return;
        }
        Matcher m = CALL.matcher(line);
        due.yes("a call with its answer: " + line, m.matches());
        if (m.matches()) {
            String got = answer(m.group(2), m.group(3));
            if (!got.equals(NOTHING)) {
                due.alike(line, got, meant(m.group(4).split(":")[0]));
            }
            if (m.group(1) != null) {
                names.put(m.group(1), Integer.valueOf(got));
            }
        }
    }

    private static String meant(String shown) {
        switch (shown) {
            case "NONE":
                return String.valueOf(SeatProofs.NONE);
            case "FULL":
                return String.valueOf(SeatProofs.FULL);
            default:
                return shown;
        }
    }

    private String answer(String call, String arguments) throws IllegalAccessException {
        for (Method method : SeatProofs.class.getMethods()) {
            if (method.getName().equals(call) && method.getDeclaringClass() == SeatProofs.class) {
                called.add(call);
                return invoke(method, arguments.isEmpty() ? new String[0] : arguments.split(", "));
            }
        }
        return "no call " + call;
    }

    private String invoke(Method method, String[] arguments) throws IllegalAccessException {
        Class<?>[] types = method.getParameterTypes();
        if (types.length != arguments.length) {
            return "wrong arguments";
        }
        Object[] values = new Object[types.length];
        for (int n = 0; n < types.length; n++) {
            values[n] = value(types[n], arguments[n]);
        }
        try {
            Object got = method.invoke(x, values);
            return got == null ? NOTHING : got.toString();
        } catch (InvocationTargetException e) {
            return "throws " + e.getCause().getClass().getSimpleName();
        }
    }

    private Object value(Class<?> type, String text) {
        if (type == boolean.class) {
            return Boolean.valueOf(text);
        }
        if (type == long.class) {
            return Long.valueOf(text);
        }
        Integer named = names.get(text);
        return named != null ? named : Integer.valueOf(text);
    }

    private void everyCallIsShown() {
        due.part("README.md");
        for (Method method : SeatProofs.class.getMethods()) {
            if (method.getDeclaringClass() == SeatProofs.class) {
                due.yes("shows " + method.getName(), called.contains(method.getName()));
            }
        }
    }

    private void everyTestIsNamed() throws IOException {
        due.part("README.md");
        String text = Files.readString(README);
        try (DirectoryStream<Path> tests = Files.newDirectoryStream(TESTS, "*Test.java")) {
            for (Path test : tests) {
                String name = test.getFileName().toString().replace(".java", "");
                due.yes("names " + name, text.contains("`" + name + "`"));
            }
        }
    }
}
