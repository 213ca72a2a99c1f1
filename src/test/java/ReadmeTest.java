import java.io.IOException;
import java.lang.reflect.InvocationTargetException;
import java.lang.reflect.Method;
import java.lang.reflect.Modifier;
import java.nio.file.DirectoryStream;
import java.nio.file.Files;
import java.nio.file.Path;
import java.util.ArrayList;
import java.util.List;
import java.util.Set;
import java.util.TreeSet;
import java.util.regex.Matcher;
import java.util.regex.Pattern;

/** README.md: its examples answer as they say, and its tables have every call and every test. */
final class ReadmeTest {
    private static final Checks CHECKS = new Checks("ReadmeTest");

    private static final String NEW_OBJECT = "Threadline line = new Threadline();";
    /** A call, and behind it an answer or an exception, a colon, and why. */
    private static final Pattern EXAMPLE =
        Pattern.compile("line\\.(\\w+)\\(([-0-9, ]*)\\); *// (throws \\w+|-?\\d+|true|false): \\S.*");
    /** The call, two columns of words, and the exceptions. */
    private static final Pattern CALL_ROW =
        Pattern.compile("\\| `(\\w+)\\(([\\w, ]*)\\)` \\| [^|]+ \\| [^|]+ \\| ([^|]+) \\|");
    private static final Pattern TEST_ROW = Pattern.compile("\\| `(\\w+Test)` \\| [^|]+ \\|");

    private static final Set<String> CALLED = new TreeSet<>();

    public static void main(String[] args) throws IOException {
        List<String> page = Files.readAllLines(Path.of("README.md"));
        examples(page);
        tableOfCalls(page);
        tableOfTests(page);
        CHECKS.note(page.contains(".ci/run"), "how the tests are run is not told");
        CHECKS.finish();
    }

    private static void examples(List<String> page) {
        Threadline line = null;
        boolean inBlock = false;
        for (String row : page) {
            if (row.startsWith("```")) {
                inBlock = row.equals("```java");
                line = null;
            } else if (inBlock && row.equals(NEW_OBJECT)) {
                line = new Threadline();
            } else if (inBlock && !row.isEmpty()) {
                example(line, row);
            }
        }
        CHECKS.equal("calls that have an example", CALLED.toString(), face().toString());
    }

    private static void example(Threadline line, String row) {
        Matcher parts = EXAMPLE.matcher(row);
        if (line == null || !parts.matches()) {
            CHECKS.note(false, "no example of the due form: " + row);
            return;
        }
        CALLED.add(parts.group(1));
        CHECKS.equal(row, answer(line, parts.group(1), numbers(parts.group(2))), parts.group(3));
    }

    private static Object[] numbers(String text) {
        List<Object> all = new ArrayList<>();
        for (String one : text.isBlank() ? new String[0] : text.split(", *")) {
            all.add(Integer.valueOf(one.trim()));
        }
        return all.toArray();
    }

    private static String answer(Threadline line, String name, Object[] numbers) {
        Method method = methodOf(name);
        if (method == null || method.getParameterCount() != numbers.length) {
            return "there is no such call";
        }
        try {
            return String.valueOf(method.invoke(line, numbers));
        } catch (InvocationTargetException e) {
            return "throws " + e.getCause().getClass().getSimpleName();
        } catch (IllegalAccessException e) {
            return "the call can't be made";
        }
    }

    private static void tableOfCalls(List<String> page) {
        Set<String> rows = new TreeSet<>();
        for (String row : page) {
            Matcher parts = CALL_ROW.matcher(row);
            if (parts.matches()) {
                rows.add(parts.group(1));
                Method method = methodOf(parts.group(1));
                CHECKS.note(method != null, "there is no call " + parts.group(1));
                if (method != null) {
                    int told = parts.group(2).isEmpty() ? 0 : parts.group(2).split(",").length;
                    CHECKS.equal("arguments of " + method.getName(), told, method.getParameterCount());
                    CHECKS.equal("exceptions of " + method.getName(), parts.group(3), exceptions(method));
                }
            }
        }
        CHECKS.equal("calls in the table", rows.toString(), face().toString());
    }

    private static String exceptions(Method method) {
        List<String> names = new ArrayList<>();
        for (Class<?> thrown : method.getExceptionTypes()) {
            names.add("`" + thrown.getSimpleName() + "`");
        }
        return names.isEmpty() ? "nothing" : String.join(", ", names);
    }

    private static void tableOfTests(List<String> page) throws IOException {
        Set<String> rows = new TreeSet<>();
        for (String row : page) {
            Matcher parts = TEST_ROW.matcher(row);
            if (parts.matches()) {
                rows.add(parts.group(1));
            }
        }
        Set<String> files = new TreeSet<>();
        try (DirectoryStream<Path> tests = Files.newDirectoryStream(Path.of("src/test/java"), "*Test.java")) {
            for (Path test : tests) {
                String name = test.getFileName().toString();
                files.add(name.substring(0, name.length() - ".java".length()));
            }
        }
        CHECKS.equal("tests in the table", rows.toString(), files.toString());
    }

    private static Set<String> face() {
        Set<String> names = new TreeSet<>();
        for (Method method : Threadline.class.getDeclaredMethods()) {
            if (Modifier.isPublic(method.getModifiers())) {
                names.add(method.getName());
            }
        }
        return names;
    }

    private static Method methodOf(String name) {
        for (Method method : Threadline.class.getDeclaredMethods()) {
            if (Modifier.isPublic(method.getModifiers()) && method.getName().equals(name)) {
                return method;
            }
        }
        return null;
    }
}
