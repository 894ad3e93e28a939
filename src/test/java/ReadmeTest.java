import java.io.ByteArrayOutputStream;
import java.io.IOException;
import java.io.PrintStream;
import java.lang.reflect.Method;
import java.lang.reflect.Modifier;
import java.nio.charset.StandardCharsets;
import java.nio.file.Files;
import java.nio.file.Path;

/** README.md shows the example as it is and what it prints, and names each method of the class. */
public final class ReadmeTest {
    public static void main(String[] args) throws IOException {
        String readme = Files.readString(Path.of("README.md"));
        String example = Files.readString(Path.of("src/test/java/Example.java"));
        String shown = example.substring(example.indexOf("final class"));
        Check.same("README.md shows the example", readme.contains("```java\n" + shown + "```\n"), true);
        String printed = printed();
        Check.same("README.md shows that the example prints\n" + printed, readme.contains("```text\n" + printed + "```\n"), true);
        for (Method method : CourtCalendar.class.getDeclaredMethods()) {
            if (Modifier.isPublic(method.getModifiers())) {
                Check.same("README.md tells of " + method.getName(), readme.contains("`" + method.getName() + "`"), true);
            }
        }
        Check.end("ReadmeTest");
    }

    private static String printed() {
        PrintStream kept = System.out;
        ByteArrayOutputStream bytes = new ByteArrayOutputStream();
        System.setOut(new PrintStream(bytes, true, StandardCharsets.US_ASCII));
        try {
            Example.main(new String[0]);
        } finally {
            System.setOut(kept);
        }
        return bytes.toString(StandardCharsets.US_ASCII).replace(System.lineSeparator(), "\n");
    }
}
