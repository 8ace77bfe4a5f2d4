import java.io.ByteArrayOutputStream;
import java.io.IOException;
import java.io.PrintStream;
import java.lang.reflect.Method;
import java.nio.charset.StandardCharsets;
import java.nio.file.Files;
import java.nio.file.Path;
import java.util.Arrays;

/** README.md shows the example as it stands in Example.java, what it prints, and every call and test that there is. */
public final class ReadmeTest {
    public static void main(String[] args) throws IOException {
        Due due = new Due("readme");
        String readme = Files.readString(Path.of("README.md"));
        Path tests = Path.of("src/test/java");
        due.yes("the example", readme.contains("```java\n" + Files.readString(tests.resolve("Example.java")) + "```"));
        due.yes("what it prints", readme.contains("```text\n" + printed() + "```"));
        for (Method m : PocketMachine.class.getMethods()) {
            if (m.getDeclaringClass() == PocketMachine.class) {
                due.yes("a row for " + m.getName(), readme.contains("\n| `" + m.getName() + "("));
            }
        }
        String[] files = tests.toFile().list();
        due.yes("there are tests", files != null && files.length > 0);
        for (String file : files == null ? new String[0] : files) {
            if (file.endsWith("Test.java")) {
                due.yes(file + " is told of", readme.contains("`" + file.replace(".java", "`")));
            }
        }
        due.yes("inner classes are told of", Arrays.stream(PocketMachine.class.getDeclaredClasses())
                .allMatch(c -> readme.contains("`" + c.getSimpleName() + "`")));
        due.yes("how tests are run", readme.contains("\n.ci/run\n"));
        due.end();
    }

    private static String printed() {
        PrintStream screen = System.out;
        ByteArrayOutputStream bytes = new ByteArrayOutputStream();
        System.setOut(new PrintStream(bytes, true, StandardCharsets.UTF_8));
        Example.main(new String[0]);
        System.setOut(screen);
        return bytes.toString(StandardCharsets.UTF_8).replace(System.lineSeparator(), "\n");
    }
}
