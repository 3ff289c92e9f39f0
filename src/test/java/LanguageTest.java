import java.io.IOException;
import java.nio.file.Files;
import java.nio.file.Path;
import java.util.regex.Matcher;
import java.util.regex.Pattern;

/** What the language's rules leave out and can be seen in single lines; it runs in the project's folder. */
public final class LanguageTest {
    private static final Path PROGRAM = Path.of("src/main/java/PathEditor.java");
    private static final Pattern REFUSED = Pattern.compile("\\b(throw|throws|try|catch|finally|synchronized|assert|"
        + "package|volatile|transient|native|strictfp|Thread|Random|nanoTime|currentTimeMillis|getenv|hashCode)\\b"
        + "|Exact\\(|::");
    private static final Pattern LIBRARY = Pattern.compile("\\b(Math|System|Integer|Long|Arrays|String|List)\\.(\\w+)");
    private static final Pattern USED = Pattern.compile("(Math|Integer|Long)\\.\\w+|System\\.arraycopy|List\\.of"
        + "|Arrays\\.(copyOf|copyOfRange|fill)");
    private static final int LONGEST_METHOD = 60;

    private LanguageTest() {
    }

    public static void main(String[] args) throws IOException {
        int start = 0;
        int number = 0;
        for (String line : Files.readAllLines(PROGRAM)) {
            number++;
            String code = line.replaceAll("^\\s*(//|/\\*\\*|\\*).*", "");
            Due.is("line " + number + " has what is refused: " + line, REFUSED.matcher(code).find() ? 1 : 0, 0);
            for (Matcher m = LIBRARY.matcher(code); m.find();) {
                Due.is("line " + number + " uses " + m.group(), USED.matcher(m.group()).matches() ? 1 : 0, 1);
            }
            if (code.matches("\\s*(public|private) .*\\) \\{")) {
                start = number;
            }
            if (code.matches(" {4}( {4})?}")) {
                boolean tooLong = start > 0 && number - start > LONGEST_METHOD;
                Due.is("the method at line " + start + " is too long", tooLong ? 1 : 0, 0);
                start = 0;
            }
        }
        Due.end();
    }
}
