import java.io.File;
import java.io.IOException;
import java.lang.reflect.InvocationTargetException;
import java.lang.reflect.Method;
import java.lang.reflect.Modifier;
import java.nio.file.Files;
import java.nio.file.Path;
import java.util.HashMap;
import java.util.List;
import java.util.Map;
import java.util.regex.Matcher;
import java.util.regex.Pattern;

/** README.md's example answers what it says, and the file names every call and every test. */
public final class ReadmeTest {
    private static final String NEW_NET = "TermNet net = new TermNet();";
    /** A call, what its answer is called if it has a name, and the answer. */
    private static final Pattern CALL =
            Pattern.compile("(?:int (\\w+) = )?net\\.(\\w+)\\(([\\w, ]*)\\); +// (-?\\w+)(:.*)?");
    private static final Due due = new Due("ReadmeTest");

    public static void main(String[] args) throws IOException {
        String readme = Files.readString(Path.of("README.md"));
        example(readme);
        namesCalls(readme);
        namesTests(readme);
        due.end();
    }

    private static void example(String readme) {
        due.about("the example");
        String behind = readme.substring(readme.indexOf("```java\n") + "```java\n".length());
        List<String> lines = behind.substring(0, behind.indexOf("```")).lines().toList();
        due.is(NEW_NET, () -> lines.get(0));
        TermNet net = new TermNet();
        Map<String, Integer> named = new HashMap<>();
        for (String line : lines.subList(1, lines.size())) {
            if (!line.isEmpty()) {
                exampleLine(net, line, named);
            }
        }
    }

    private static void exampleLine(TermNet net, String line, Map<String, Integer> named) {
        Matcher parts = CALL.matcher(line);
        due.is(line + " is a call with its answer: true",
                () -> line + " is a call with its answer: " + parts.matches());
        if (!parts.matches()) {
            return;
        }
        Object answer = answerTo(net, parts.group(2), parts.group(3), named);
        due.is(line + " = " + parts.group(4), () -> line + " = " + answer);
        if (parts.group(1) != null) {
            named.put(parts.group(1), (Integer) answer);
        }
    }

    private static Object answerTo(TermNet net, String call, String list,
            Map<String, Integer> named) {
        String[] texts = list.isEmpty() ? new String[0] : list.split(", ");
        Object[] numbers = new Object[texts.length];
        for (int n = 0; n < texts.length; n++) {
            Integer number = named.get(texts[n]);
            numbers[n] = number == null ? Integer.valueOf(texts[n]) : number;
        }
        try {
            return methodNamed(call).invoke(net, numbers);
        } catch (IllegalAccessException | InvocationTargetException e) {
            return e.toString();
        }
    }

    private static Method methodNamed(String name) {
        for (Method m : TermNet.class.getDeclaredMethods()) {
            if (m.getName().equals(name)) {
                return m;
            }
        }
        throw new IllegalStateException("no call is named " + name);
    }

    private static void namesCalls(String readme) {
        due.about("each call of the face has its row");
        for (Method m : TermNet.class.getDeclaredMethods()) {
            if (Modifier.isPublic(m.getModifiers())) {
                has(readme, "\n| `" + m.getName() + "(");
            }
        }
    }

    private static void namesTests(String readme) {
        due.about("how the tests are run, and each of them");
        has(readme, "\n    .ci/run\n");
        has(readme, "`../shared/tests`");
        String[] files = new File("src/test/java").list();
        due.is(true, () -> files != null && files.length > 0);
        for (String file : files == null ? new String[0] : files) {
            has(readme, "`" + file.replace(".java", "") + "`");
        }
    }

    private static void has(String readme, String text) {
        due.is(text + " stands there: true",
                () -> text + " stands there: " + readme.contains(text));
    }
}
