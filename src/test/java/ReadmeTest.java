import java.io.IOException;
import java.lang.reflect.Method;
import java.lang.reflect.Modifier;
import java.nio.file.Files;
import java.nio.file.Path;
import java.util.Arrays;
import java.util.regex.Matcher;
import java.util.regex.Pattern;

/** Makes the calls of the example in README.md; a comment "// 0: .." there tells the answer. */
public final class ReadmeTest {
    private static final Pattern CALL =
        Pattern.compile("line\\.(\\w+)\\(([0-9, ]*)\\);\\s*// (?:(\\d+): )?.+");

    private static final Check check = new Check("ReadmeTest");

    public static void main(String[] args) throws IOException, ReflectiveOperationException {
        String readme = Files.readString(Path.of("README.md"));
        String[] example = readme.split("```java\n")[1].split("```")[0].split("\n");
        PaintSequencer line = new PaintSequencer();
        for (int at = 1; at < example.length; at++) {
            call(line, example[at]);
        }
        for (Method method : PaintSequencer.class.getDeclaredMethods()) {
            if (Modifier.isPublic(method.getModifiers())) {
                check.same(method.getName() + " is told", true,
                    readme.contains("`" + method.getName() + "("));
            }
        }
        check.end();
    }

    private static void call(PaintSequencer line, String told) throws ReflectiveOperationException {
        Matcher call = CALL.matcher(told);
        check.same("\"" + told + "\" is a call", true, call.matches());
        Object[] values = Pattern.compile("\\d+").matcher(call.group(2)).results()
            .map(found -> Integer.valueOf(found.group())).toArray();
        Class<?>[] types = new Class<?>[values.length];
        Arrays.fill(types, int.class);
        Object got = PaintSequencer.class.getMethod(call.group(1), types).invoke(line, values);
        check.same(told, String.valueOf(call.group(3)), String.valueOf(got));
    }
}
