import java.io.IOException;
import java.lang.reflect.Field;
import java.lang.reflect.Method;
import java.lang.reflect.Modifier;
import java.nio.file.DirectoryStream;
import java.nio.file.Files;
import java.nio.file.Path;
import java.util.regex.Matcher;
import java.util.regex.Pattern;

/**
 * README.md: the calls of its example answer what stands beside them, and it names every method, every code with
 * its value, the limit of calls and every test.
 */
public final class ReadmeTest {
    private static final Pattern MAKING = Pattern.compile("StopPress x = new StopPress\\(\\);");
    private static final Pattern TYPING = Pattern.compile("for \\(char c : \"([a-z]+)\"\\.toCharArray\\(\\)\\) x\\.letter\\(c\\);");
    private static final Pattern CALL = Pattern.compile("x\\.(\\w+)\\(([0-9, ]*)\\);\\s+// (-?\\d+)(: .*)?");
    private static int wrong = 0;

    public static void main(String[] args) throws Exception {
        Path source = Path.of(args.length > 0 ? args[0] : "src/main/java/StopPress.java").toAbsolutePath().normalize();
        Path root = source.getParent().getParent().getParent().getParent();
        String readme = Files.readString(root.resolve("README.md"));
        checkExample(readme);
        checkMethods(readme);
        checkCodes(readme);
        expect(readme.contains("An object is used for at most 512 calls after it has been made"), "the limit of calls is not named");
        expect(readme.contains("\n.ci/run\n"), "how to run the tests is not said");
        checkTests(readme, root.resolve("src/test/java"));
        System.out.println(wrong == 0 ? "README.md holds" : wrong + " faults in README.md");
        if (wrong != 0) {
            System.exit(1);
        }
    }

    private static void expect(boolean holds, String text) {
        if (!holds) {
            wrong++;
            System.out.println(text);
        }
    }

    private static void checkExample(String readme) throws Exception {
        int from = readme.indexOf("```java\n");
        int to = readme.indexOf("\n```", from + 1);
        if (from < 0 || to < 0) {
            expect(false, "there is no example");
            return;
        }
        StopPress x = null;
        int calls = 0;
        for (String line : readme.substring(from + "```java\n".length(), to).split("\n")) {
            Matcher typing = TYPING.matcher(line);
            Matcher call = CALL.matcher(line);
            if (MAKING.matcher(line).matches()) {
                x = new StopPress();
            } else if (x != null && typing.matches()) {
                for (char c : typing.group(1).toCharArray()) {
                    x.letter(c);
                }
            } else if (x != null && call.matches()) {
                long got = answer(x, call.group(1), call.group(2));
                expect(got == Long.parseLong(call.group(3)), "the example says " + line + ", but the answer is " + got);
                calls++;
            } else {
                expect(false, "not understood: " + line);
            }
        }
        expect(calls > 0, "the example has no calls");
    }

    private static long answer(StopPress x, String name, String list) throws Exception {
        String[] words = list.isBlank() ? new String[0] : list.split(", ");
        Class<?>[] types = new Class<?>[words.length];
        Object[] values = new Object[words.length];
        for (int i = 0; i < words.length; i++) {
            types[i] = int.class;
            values[i] = Integer.valueOf(words[i]);
        }
        return ((Number) StopPress.class.getMethod(name, types).invoke(x, values)).longValue();
    }

    private static void checkMethods(String readme) {
        for (Method method : StopPress.class.getDeclaredMethods()) {
            if (Modifier.isPublic(method.getModifiers())) {
                expect(readme.contains("`" + method.getName() + "`"), "the method " + method.getName() + " is not named");
            }
        }
    }

    private static void checkCodes(String readme) throws IllegalAccessException {
        for (Field field : StopPress.class.getFields()) {
            String row = "| `" + field.getName() + "` | " + field.getInt(null) + " |";
            String words = "`" + field.getName() + "` (" + field.getInt(null) + ")";
            expect(readme.contains(row) || readme.contains(words), "the code " + field.getName() + " is not named with its value");
        }
    }

    private static void checkTests(String readme, Path tests) throws IOException {
        try (DirectoryStream<Path> files = Files.newDirectoryStream(tests, "*.java")) {
            for (Path file : files) {
                String name = file.getFileName().toString().replace(".java", "");
                expect(readme.contains("- `" + name + "`: "), "the test " + name + " is not told");
            }
        }
    }
}
