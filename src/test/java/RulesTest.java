import java.io.IOException;
import java.nio.file.Files;
import java.nio.file.Path;
import java.util.List;
import java.util.regex.Pattern;

/** The rules of LANGUAGE.md that can be seen in the text of the program. */
public final class RulesTest {
    private static final String[] FORBIDDEN = {
        "->", "::", "\\bimport\\b", "\\bpackage\\b", "\\bcatch\\b", "\\bfinally\\b", "\\bassert\\b",
        "\\bsynchronized\\b", "\\bstatic\\s*\\{", "\\binstanceof\\b", "Exact\\(", "System\\.", "Object\\b",
        "\\bequals\\(", "\\bhashCode\\(", "\\btoString\\(", "\\w\\.\\.\\.", "\" \\+", "\\+ \"", "\\bwhile\\s*\\(true",
        "for \\(;;\\)", "\\bprotected\\b", "\\bvar\\b", "\\bvolatile\\b", "\\bnative\\b", "\\btransient\\b"};
    private static final Pattern METHOD = Pattern.compile("^( {4}| {8})[a-z].*\\) (throws .*)?\\{$|^ {8,}throws .*\\{$");

    public static void main(String[] args) throws IOException {
        Check check = new Check("RulesTest");
        List<String> lines = Files.readAllLines(Path.of("src/main/java/QuillBoats.java"));
        int begun = -1;
        for (int i = 0; i < lines.size(); i++) {
            String line = lines.get(i);
            String code = line.replaceAll("//.*", "").replaceAll("^\\s*/?\\*.*", "");
            for (String word : FORBIDDEN) {
                check.isTrue("line " + (i + 1) + " without " + word + ": " + line.trim(),
                        !Pattern.compile(word).matcher(code).find());
            }
            check.isTrue("line " + (i + 1) + " in plain signs", line.chars().allMatch(c -> c >= 32 && c < 127));
            if (METHOD.matcher(line).find()) {
                begun = i;
            }
            if (begun >= 0 && (line.equals("    }") || line.equals("        }"))) {
                boolean ends = line.indexOf('}') == lines.get(begun).length() - lines.get(begun).stripLeading().length()
                        || lines.get(begun).contains(" throws ");
                check.isTrue("a method of at most sixty lines behind line " + (begun + 1), !ends || i - begun <= 60);
            }
        }
        check.end();
    }
}
