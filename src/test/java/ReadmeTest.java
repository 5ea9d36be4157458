import java.io.ByteArrayOutputStream;
import java.io.IOException;
import java.io.PrintStream;
import java.lang.reflect.Method;
import java.lang.reflect.Modifier;
import java.nio.charset.StandardCharsets;
import java.nio.file.Files;
import java.nio.file.Path;

/** README.md tells of every call, and what it shows of the class is so. */
public final class ReadmeTest extends Check {
    private ReadmeTest() {
    }

    public static void main(String[] args) throws IOException {
        String page = Files.readString(Path.of("README.md"));
        everyCall(page);
        example(page);
        theTextAbove(page);
        everyTest(page);
        finish();
    }

    private static void everyCall(String page) {
        for (Method m : CanalKeeper.class.getDeclaredMethods()) {
            if (Modifier.isPublic(m.getModifiers())) {
                boolean isTold = page.contains("`" + m.getName() + "`") || page.contains("`" + m.getName() + "(");
                due("README.md tells of " + m.getName(), isTold, true);
            }
        }
    }

    private static void example(String page) throws IOException {
        String source = Files.readString(Path.of("src/test/java/Example.java"));
        due("README.md has Example.java", page.contains("```java\n" + source + "```\n"), true);
        due("README.md has what it prints", page.contains("```text\n" + printed() + "```\n"), true);
    }

    private static String printed() {
        ByteArrayOutputStream bytes = new ByteArrayOutputStream();
        PrintStream screen = System.out;
        System.setOut(new PrintStream(bytes, true, StandardCharsets.UTF_8));
        Example.main(new String[0]);
        System.setOut(screen);
        return bytes.toString(StandardCharsets.UTF_8).replace("\r\n", "\n");
    }

    private static void theTextAbove(String page) {
        int first = page.indexOf("canal gives 50;");
        int behind = page.indexOf("```", Math.max(first, 0));
        due("README.md has a text", first >= 0 && behind >= 0, true);
        if (first >= 0 && behind >= 0) {
            whole(page.substring(first, behind), 7);
        }
    }

    private static void everyTest(String page) throws IOException {
        try (var files = Files.list(Path.of("src/test/java"))) {
            for (Path file : files.sorted().toList()) {
                String name = file.getFileName().toString().replace(".java", "");
                if (name.endsWith("Test")) {
                    due("README.md tells of " + name, page.contains("`" + name + "`"), true);
                }
            }
        }
    }
}
