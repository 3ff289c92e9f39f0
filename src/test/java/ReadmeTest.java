import java.io.IOException;
import java.lang.reflect.Field;
import java.lang.reflect.Method;
import java.lang.reflect.Modifier;
import java.nio.file.Files;
import java.nio.file.Path;
import java.util.List;
import java.util.Set;
import java.util.TreeSet;
import java.util.regex.Matcher;
import java.util.regex.Pattern;
import java.util.stream.Collectors;
import java.util.stream.Stream;

/** What README.md says of the class and of the tests holds; it runs in the project's folder. */
public final class ReadmeTest {
    private static final Path PAGE = Path.of("README.md");
    private static final Path TESTS = Path.of("src/test/java");
    private static final String NEW = "PathEditor editor = new PathEditor();";
    private static final Pattern CALL = Pattern.compile("editor\\.(\\w+\\(.*?\\)); +// (-?\\w+)(:.*)?");
    private static final Pattern LETTER = Pattern.compile("'(.)'");
    private static final Pattern CALL_ROW = Pattern.compile("\\| `(\\w+)\\((.*)\\)` \\| .+ \\|");
    private static final Pattern FAULT_ROW = Pattern.compile("\\| `(M.*)` \\| `?(\\w+)`? \\|");
    private static final Pattern CONSTANT_ROW = Pattern.compile("\\| `(\\w+)` \\| (-\\d+) \\| .+ \\|");
    private static final Pattern TEST_ITEM = Pattern.compile("- `(\\w+Test)`: .*");

    private ReadmeTest() {
    }

    public static void main(String[] args) throws IOException, IllegalAccessException {
        List<String> page = Files.readAllLines(PAGE);
        examples(page);
        calls(page);
        faults(page);
        constants(page);
        tests(page);
        Due.end();
    }

    private static void examples(List<String> page) throws IllegalAccessException {
        Script script = null;
        boolean inside = false;
        int seen = 0;
        for (String line : page) {
            if (line.startsWith("```")) {
                inside = line.equals("```java");
            } else if (inside && line.equals(NEW)) {
                script = new Script();
            } else if (inside && script != null) {
                Matcher m = CALL.matcher(line);
                same("the example's line has a call and its answer: " + line, m.matches(), true);
                script.due(withNumbers(m.group(1)), value(m.group(2)));
                seen++;
            }
        }
        same("there are examples", seen > 0, true);
    }

    /** 'M' becomes 77. */
    private static String withNumbers(String call) {
        return LETTER.matcher(call).replaceAll(m -> String.valueOf((int) m.group(1).charAt(0)));
    }

    private static long value(String word) throws IllegalAccessException {
        return word.matches("-?\\d+") ? Long.parseLong(word) : field(word);
    }

    private static long field(String name) throws IllegalAccessException {
        for (Field field : PathEditor.class.getFields()) {
            if (field.getName().equals(name)) {
                return field.getInt(null);
            }
        }
        throw new IllegalStateException("no such constant: " + name);
    }

    private static void calls(List<String> page) {
        Set<String> told = new TreeSet<>();
        for (Matcher m : rows(page, CALL_ROW)) {
            told.add(m.group(1) + " " + (m.group(2).isEmpty() ? 0 : m.group(2).split(", ").length));
        }
        Set<String> there = new TreeSet<>();
        for (Method method : PathEditor.class.getDeclaredMethods()) {
            if (Modifier.isPublic(method.getModifiers())) {
                there.add(method.getName() + " " + method.getParameterCount());
            }
        }
        same("the calls are " + there + ", told are " + told, told.equals(there), true);
    }

    private static void faults(List<String> page) throws IllegalAccessException {
        List<Matcher> rows = rows(page, FAULT_ROW);
        same("there are texts", rows.size() > 1, true);
        for (Matcher m : rows) {
            new Script().type(m.group(1)).due("faultPosition()", value(m.group(2)));
        }
    }

    private static void constants(List<String> page) throws IllegalAccessException {
        List<Matcher> rows = rows(page, CONSTANT_ROW);
        same("all constants but U are told", rows.size() == PathEditor.class.getFields().length - 1, true);
        for (Matcher m : rows) {
            Due.is(m.group(1) + " in README.md", Long.parseLong(m.group(2)), field(m.group(1)));
        }
        same("U is told", page.stream().anyMatch(line -> line.contains("`PathEditor.U` = " + PathEditor.U)), true);
    }

    private static void tests(List<String> page) throws IOException {
        Set<String> told = rows(page, TEST_ITEM).stream().map(m -> m.group(1))
            .collect(Collectors.toCollection(TreeSet::new));
        Set<String> there = new TreeSet<>();
        try (Stream<Path> files = Files.list(TESTS)) {
            files.map(file -> file.getFileName().toString()).filter(name -> name.endsWith("Test.java"))
                .forEach(name -> there.add(name.replace(".java", "")));
        }
        same("the tests are " + there + ", told are " + told, told.equals(there), true);
    }

    private static List<Matcher> rows(List<String> page, Pattern form) {
        return page.stream().map(form::matcher).filter(Matcher::matches).toList();
    }

    private static void same(String what, boolean got, boolean want) {
        Due.is(what, got ? 1 : 0, want ? 1 : 0);
    }
}
