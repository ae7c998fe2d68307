import java.io.IOException;
import java.lang.reflect.InvocationTargetException;
import java.lang.reflect.Method;
import java.lang.reflect.Modifier;
import java.nio.file.Files;
import java.nio.file.Path;
import java.util.List;
import java.util.Set;
import java.util.TreeSet;
import java.util.regex.Matcher;
import java.util.regex.Pattern;

/**
 * Makes the calls of README.md's example, row by row, and compares each answer with the one that stands behind
 * it, up to a colon: a number, true, false, or "throws" and the exception's name; drop answers nothing, so behind it
 * any text may stand.
 * .ci/run starts the tests where README.md stands.
 */
public final class ReadmeTest {

    private static final String FIRST = "CellProjection plane = new CellProjection();";
    private static final String NOTHING = "nothing";
    private static final Pattern ROW = Pattern.compile("plane\\.(\\w+)\\(([^)]*)\\); +// ([^:]+)(: .+)?");

    private static int wrong = 0;

    private static void tell(String text) {
        wrong++;
        System.out.println(text);
    }

    private static List<String> example() throws IOException {
        List<String> all = Files.readAllLines(Path.of("README.md"));
        int start = all.indexOf("```java") + 1;
        List<String> behind = all.subList(start, all.size());
        int length = behind.indexOf("```");
        return start == 0 || length < 0 ? List.of() : behind.subList(0, length);
    }

    private static int numberOf(String text) {
        return text.startsWith("0b") ? Integer.parseInt(text.substring(2), 2) : Integer.parseInt(text);
    }

    private static Object[] numbersOf(String text) {
        if (text.isEmpty()) {
            return new Object[0];
        }
        String[] parts = text.split(", ");
        Object[] numbers = new Object[parts.length];
        for (int k = 0; k < parts.length; k++) {
            numbers[k] = numberOf(parts[k]);
        }
        return numbers;
    }

    private static Method method(String name) {
        for (Method method : CellProjection.class.getMethods()) {
            if (method.getName().equals(name)) {
                return method;
            }
        }
        throw new AssertionError("README.md calls " + name + ", which is not of the face");
    }

    private static String answer(CellProjection plane, String name, Object[] numbers) throws IllegalAccessException {
        try {
            Object answer = method(name).invoke(plane, numbers);
            return answer == null ? NOTHING : answer.toString();
        } catch (InvocationTargetException e) {
            return "throws " + e.getCause().getClass().getSimpleName();
        }
    }

    private static void compare(CellProjection plane, String row, Set<String> called) throws IllegalAccessException {
        Matcher parts = ROW.matcher(row);
        if (!parts.matches()) {
            tell("README.md: a row that the test can't read: " + row);
            return;
        }
        String name = parts.group(1);
        String got = answer(plane, name, numbersOf(parts.group(2)));
        called.add(name);
        if (!got.equals(NOTHING) && !got.equals(parts.group(3))) {
            tell("README.md: " + row + " -- the answer is " + got);
        }
    }

    public static void main(String[] args) throws IOException, IllegalAccessException {
        List<String> rows = example();
        if (rows.isEmpty() || !rows.get(0).equals(FIRST)) {
            tell("README.md has no example that begins with " + FIRST);
        } else {
            CellProjection plane = new CellProjection();
            Set<String> called = new TreeSet<>();
            for (String row : rows.subList(1, rows.size())) {
                compare(plane, row, called);
            }
            for (Method method : CellProjection.class.getDeclaredMethods()) {
                if (Modifier.isPublic(method.getModifiers()) && !called.contains(method.getName())) {
                    tell("README.md shows no call of " + method.getName());
                }
            }
        }
        System.out.println(wrong == 0 ? "all answers in README.md are as due" : wrong + " things are not as due");
        if (wrong != 0) {
            System.exit(1);
        }
    }
}
