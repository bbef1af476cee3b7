import java.io.ByteArrayOutputStream;
import java.io.IOException;
import java.io.PrintStream;
import java.lang.reflect.Method;
import java.lang.reflect.Modifier;
import java.nio.charset.StandardCharsets;
import java.nio.file.Files;
import java.nio.file.Path;

/** What README.md says of the class is so: each call and exception is there, its lines are read, its example runs. */
public final class ReadmeTest {
    private static final String KNOWN = "garden hill sticks 40 grows 6 thick 2; rack loft holds 30; "
            + "peeler ana of hill to loft skill 4; boat gull holds 20 speed 5; ";

    public static void main(String[] args) throws IOException {
        Check check = new Check("ReadmeTest");
        String readme = Files.readString(Path.of("README.md"));
        for (Method method : QuillBoats.class.getDeclaredMethods()) {
            if (Modifier.isPublic(method.getModifiers())) {
                check.isTrue("README.md has " + method.getName(), readme.contains("| `" + method.getName() + "(")
                        || readme.contains("\n`" + method.getName() + "("));
                for (Class<?> thrown : method.getExceptionTypes()) {
                    check.isTrue("README.md has it", readme.contains("| `" + thrown.getSimpleName() + "` |"));
                }
            }
        }
        readLines(check, readme);
        String example = Files.readString(Path.of("src/test/java/Example.java"));
        check.isTrue("README.md has the example", readme.contains("```java\n" + example + "```\n"));
        check.isTrue("the example prints this", readme.contains("```text\n" + printedByExample() + "```\n"));
        check.end();
    }

    private static void readLines(Check check, String readme) {
        int lines = 0;
        for (String row : readme.split("\n")) {
            if (row.startsWith("| `") && row.contains(";` |")) {
                String line = row.substring(3, row.indexOf('`', 3));
                boolean isKnown = KNOWN.contains(line);
                check.fine(isKnown ? KNOWN : KNOWN + line);
                lines++;
            }
        }
        check.same("lines of each kind", lines, 10);
    }

    private static String printedByExample() {
        PrintStream before = System.out;
        ByteArrayOutputStream printed = new ByteArrayOutputStream();
        System.setOut(new PrintStream(printed, true, StandardCharsets.UTF_8));
        Example.main(new String[0]);
        System.setOut(before);
        return printed.toString(StandardCharsets.UTF_8).replace("\r\n", "\n");
    }
}
