import java.io.IOException;
import java.nio.file.Files;
import java.nio.file.Path;
import java.util.List;
import java.util.Set;
import java.util.regex.Matcher;
import java.util.regex.Pattern;
import java.util.stream.Stream;

/** What LANGUAGE.md leaves out, as far as a look at the words of the source can tell. */
public final class LanguageTest {
    private static final Path SOURCE = Path.of("src/main/java/PaintSequencer.java");
    private static final Set<String> OWN = Set.of("PaintSequencer", "Lane", "Plan");
    private static final Set<String> LIBRARY = Set.of("String", "StringBuilder", "ArrayList", "List",
        "Integer", "Long", "Math", "Iterator", "Iterable", "Comparable", "System", "Arrays",
        "IllegalStateException", "IllegalArgumentException", "IndexOutOfBoundsException",
        "ArithmeticException", "UnsupportedOperationException", "NoSuchElementException",
        "RuntimeException");
    private static final Set<String> LEFT_OUT = Set.of("package", "finally", "synchronized", "assert",
        "native", "volatile", "protected", "equals", "hashCode", "toString", "getMessage");
    private static final List<String> SIGNS = List.of("->", "::", "@", "\"\" +", "+ \"\"", "static {");
    private static final int MOST_LINES = 60;

    private static final Check check = new Check("LanguageTest");

    public static void main(String[] args) throws IOException {
        try (Stream<Path> found = Files.walk(SOURCE.getParent())) {
            check.same("one file", List.of(SOURCE), found.filter(Files::isRegularFile).toList());
        }
        String source = Files.readString(SOURCE);
        check.same("signs are 1 to 127", true, source.chars().allMatch(c -> c >= 1 && c <= 127));
        String code = source.replaceAll("(?s)/\\*.*?\\*/|//[^\n]*", "")
            .replaceAll("\"[^\"\n]*\"", "\"\"");
        words(code);
        for (String sign : SIGNS) {
            check.same("the sign " + sign + " stands nowhere", false, code.contains(sign));
        }
        throwsWrittenTexts(code);
        bodiesAreShort(code);
        check.end();
    }

    private static void words(String code) {
        Matcher word = Pattern.compile("[A-Za-z_]\\w*").matcher(code);
        while (word.find()) {
            String told = word.group();
            boolean isClass = told.matches("[A-Z]\\w*[a-z]\\w*");
            boolean isLeftOut = LEFT_OUT.contains(told) || told.endsWith("Exact")
                || isClass && !OWN.contains(told) && !LIBRARY.contains(told);
            check.same("the word " + told + " is left out", false, isLeftOut);
        }
    }

    private static void throwsWrittenTexts(String code) {
        Matcher thrown = Pattern.compile("\\bthrow\\b[^;]*;").matcher(code);
        while (thrown.find()) {
            check.same(thrown.group(), true,
                thrown.group().matches("throw new \\w+Exception\\((\"\")?\\);"));
        }
    }

    private static void bodiesAreShort(String code) {
        Matcher body = Pattern.compile("(?m)^( +)(\\w[^=;\n]*\\([^;{}]*)\\{\n((?:\\1 .*\n|\n)*)")
            .matcher(code);
        int seen = 0;
        while (body.find()) {
            seen++;
            check.same(body.group(2).strip() + " is short", true,
                body.group(3).lines().count() <= MOST_LINES);
        }
        check.same("methods are seen", true, seen > 24);
    }
}
