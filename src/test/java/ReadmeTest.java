import java.io.IOException;
import java.lang.reflect.InvocationTargetException;
import java.lang.reflect.Method;
import java.lang.reflect.Modifier;
import java.nio.file.Files;
import java.nio.file.Path;
import java.util.Set;
import java.util.TreeSet;
import java.util.regex.Matcher;
import java.util.regex.Pattern;
import java.util.stream.Stream;

/** What README.md says of the class and of its tests is so. */
public final class ReadmeTest {
    private static final Path PAGE = Path.of("README.md");
    private static final Path TESTS = Path.of("src/test/java");
    /** A call of the example, its arguments, and the answer that stands behind it. */
    private static final Pattern CALL = Pattern.compile("^grid\\.(\\w+)\\(([^)]*)\\);\\s*// (\\w+)", Pattern.MULTILINE);

    private static final Answers ANSWERS = new Answers("ReadmeTest");

    private ReadmeTest() {
    }

    public static void main(String[] args) throws IOException, ReflectiveOperationException {
        String page = Files.readString(PAGE);
        exampleAnswers(page);
        methodsAreNamed(page);
        testsAreNamed(page);
        ANSWERS.end();
    }

    private static void exampleAnswers(String page) throws ReflectiveOperationException {
        MergeGrid grid = new MergeGrid();
        Matcher call = CALL.matcher(page);
        int calls = 0;
        while (call.find()) {
            String told = call.group(1) + "(" + call.group(2) + ")";
            ANSWERS.due(told, answer(grid, call.group(1), call.group(2)), call.group(3));
            calls++;
        }
        ANSWERS.due("the calls of the example", calls, page.split("\ngrid\\.", -1).length - 1);
        ANSWERS.due("the example has calls", calls > 0, true);
    }

    private static String answer(MergeGrid grid, String name, String arguments) throws ReflectiveOperationException {
        Object[] values = Stream.of(arguments.split(", ")).filter(text -> !text.isEmpty()).map(ReadmeTest::value).toArray();
        try {
            return String.valueOf(named(name).invoke(grid, values));
        } catch (InvocationTargetException e) {
            return "throws." + e.getCause().getClass().getSimpleName();
        }
    }

    private static Object value(String text) {
        return text.startsWith("'") ? (Object) text.charAt(1) : (Object) Integer.valueOf(text);
    }

    private static Method named(String name) throws NoSuchMethodException {
        for (Method method : MergeGrid.class.getMethods()) {
            if (method.getName().equals(name)) {
                return method;
            }
        }
        throw new NoSuchMethodException(name);
    }

    private static void methodsAreNamed(String page) {
        for (Method method : MergeGrid.class.getDeclaredMethods()) {
            if (Modifier.isPublic(method.getModifiers())) {
                ANSWERS.due(method.getName() + " is named", page.contains("`" + method.getName() + "`"), true);
            }
        }
    }

    private static void testsAreNamed(String page) throws IOException {
        Set<String> named = new TreeSet<>();
        Matcher row = Pattern.compile("^\\| `(\\w+Test)` \\|", Pattern.MULTILINE).matcher(page);
        while (row.find()) {
            named.add(row.group(1));
        }
        Set<String> there = new TreeSet<>();
        try (Stream<Path> files = Files.list(TESTS)) {
            files.map(file -> file.getFileName().toString()).filter(name -> name.endsWith("Test.java"))
                    .forEach(name -> there.add(name.substring(0, name.length() - ".java".length())));
        }
        ANSWERS.due("the tests that are named", named, there);
    }
}
