import java.io.IOException;
import java.lang.reflect.Constructor;
import java.lang.reflect.Field;
import java.lang.reflect.Method;
import java.lang.reflect.Modifier;
import java.nio.file.Files;
import java.nio.file.Path;
import java.util.Arrays;
import java.util.Set;
import java.util.TreeSet;
import java.util.regex.Matcher;
import java.util.regex.Pattern;

/** The public face is the document's, and nothing else of the class can be seen or kept from run to run. */
final class FaceTest {
    private static final Checks CHECKS = new Checks("FaceTest");

    private static final String[] FACE = {
        "int letter(int, int, int, int, int, int) IllegalArgumentException IllegalStateException",
        "int delete(int) IllegalArgumentException IllegalStateException",
        "int split(int) IllegalArgumentException IllegalStateException",
        "int join(int, int) IllegalArgumentException IllegalStateException",
        "boolean release(int) IllegalArgumentException IllegalStateException",
        "int read(int) IllegalArgumentException IndexOutOfBoundsException",
        "int state(int) IllegalArgumentException",
        "int parent(int) IllegalArgumentException IndexOutOfBoundsException",
        "int children(int) IllegalArgumentException IndexOutOfBoundsException",
        "int roots()",
        "int root(int) IndexOutOfBoundsException",
        "int inTree(int, int) IllegalArgumentException IndexOutOfBoundsException",
        "int depth(int) IllegalArgumentException IndexOutOfBoundsException",
        "int letters(int) IllegalArgumentException IndexOutOfBoundsException",
        "int unread(int) IllegalArgumentException IndexOutOfBoundsException",
        "int people(int) IllegalArgumentException IndexOutOfBoundsException",
        "int latest(int) IllegalArgumentException IndexOutOfBoundsException",
    };

    /** "Ahead of the calls .. the interface says", in the order of the document's face. */
    private static final String HEADINGS =
        " [---- letters] letter delete split join release read"
        + " [---- the forest] state parent children roots root inTree depth"
        + " [---- summaries of the tree of an id] letters unread people latest";
    private static final Pattern HEADING = Pattern.compile(" *// (---- .*)");
    private static final Pattern CALL = Pattern.compile(" {4}public (?:int|boolean) (\\w+)\\(.*");

    public static void main(String[] args) throws IOException {
        Class<?> type = Threadline.class;
        CHECKS.equal("public", Modifier.isPublic(type.getModifiers()), true);
        CHECKS.equal("final", Modifier.isFinal(type.getModifiers()), true);
        constructors(type);
        methods(type);
        fields(type);
        headings();
        for (Class<?> inner : type.getDeclaredClasses()) {
            CHECKS.note(Modifier.isStatic(inner.getModifiers()), inner + " is not static");
            CHECKS.note(!Modifier.isPublic(inner.getModifiers()), inner + " is public");
            noNamesOfTheFace(inner);
            fields(inner);
        }
        CHECKS.finish();
    }

    private static void constructors(Class<?> type) {
        Constructor<?>[] all = type.getDeclaredConstructors();
        CHECKS.equal("constructors", all.length, 1);
        CHECKS.equal("its parameters", all[0].getParameterCount(), 0);
        CHECKS.equal("it is public", Modifier.isPublic(all[0].getModifiers()), true);
    }

    private static void methods(Class<?> type) {
        Set<String> seen = new TreeSet<>();
        for (Method method : type.getDeclaredMethods()) {
            if (!Modifier.isPrivate(method.getModifiers())) {
                seen.add(signature(method));
                CHECKS.note(Modifier.isPublic(method.getModifiers()), method + " is neither public nor private");
            }
        }
        CHECKS.equal("the face", seen.toString(), new TreeSet<>(Arrays.asList(FACE)).toString());
        noNamesOfTheFace(type);
    }

    private static void headings() throws IOException {
        StringBuilder seen = new StringBuilder();
        String ahead = "";
        for (String row : Files.readAllLines(Path.of("src/main/java/Threadline.java"))) {
            Matcher heading = HEADING.matcher(row);
            Matcher call = CALL.matcher(row);
            if (heading.matches()) {
                ahead = " [" + heading.group(1) + "]";
            } else if (call.matches()) {
                seen.append(ahead).append(' ').append(call.group(1));
                ahead = "";
            }
        }
        CHECKS.equal("headings ahead of the calls", seen.toString(), HEADINGS);
    }

    private static void noNamesOfTheFace(Class<?> type) {
        Set<String> names = new TreeSet<>();
        for (String row : FACE) {
            names.add(row.substring(row.indexOf(' ') + 1, row.indexOf('(')));
        }
        for (Method method : type.getDeclaredMethods()) {
            if (Modifier.isPrivate(method.getModifiers())) {
                CHECKS.note(!names.contains(method.getName()), method + " bears the name of a public one");
            }
            CHECKS.note(method.getParameterCount() <= 7, method + " takes more than seven parameters");
        }
    }

    private static void fields(Class<?> type) {
        for (Field field : type.getDeclaredFields()) {
            int is = field.getModifiers();
            CHECKS.note(Modifier.isPrivate(is), field + " is not private");
            CHECKS.note(!Modifier.isStatic(is) || Modifier.isFinal(is), field + " is static and not final");
        }
    }

    private static String signature(Method method) {
        StringBuilder text = new StringBuilder(method.getReturnType() + " " + method.getName() + "(");
        for (Class<?> parameter : method.getParameterTypes()) {
            text.append(text.charAt(text.length() - 1) == '(' ? "" : ", ").append(parameter);
        }
        text.append(")");
        for (Class<?> thrown : method.getExceptionTypes()) {
            text.append(" ").append(thrown.getSimpleName());
        }
        return text.toString();
    }
}
