import java.nio.file.Files;
import java.nio.file.Path;
import java.util.regex.Matcher;
import java.util.regex.Pattern;

/** What LANGUAGE.md rules out and a look at the words of the source can find. */
public final class LanguageTest {
    private static final Checks due = new Checks("LanguageTest");

    public static void main(String[] args) throws Exception {
        Path root = Path.of(System.getProperty("project", "."));
        String source = Files.readString(root.resolve("src/main/java/LineRemarks.java"));
        due.that("letters of ASCII alone", source.chars().allMatch(c -> c > 0 && c < 127));
        String code = source.replaceAll("(?s)/\\*.*?\\*/", "").replaceAll("//[^\n]*", "");
        words(code);
        imports(code);
        methods(code);
        due.end();
    }

    private static void none(String code, String what) {
        Matcher found = Pattern.compile(what).matcher(code);
        boolean is = found.find();
        if (is) {
            System.out.println("found: " + found.group());
        }
        due.that("none of " + what, !is);
    }

    private static void words(String code) {
        none(code, "\\b(throw|throws|try|catch|finally|synchronized|assert|instanceof|package|var|native)\\b");
        none(code, "->|::|@");
        none(code, "\\b(System\\.(?!arraycopy)\\w+|Thread|Runtime|Random|Object|Class)\\b");
        none(code, "\\bstatic\\s*\\{");
        none(code, "\\bString\\b");
        none(code, "Exact\\(");
        none(code, "\\b(double|float)\\b");
    }

    private static void imports(String code) {
        Matcher found = Pattern.compile("import ([\\w.]+);").matcher(code);
        StringBuilder names = new StringBuilder();
        while (found.find()) {
            names.append(found.group(1)).append(' ');
        }
        due.same("imports", names.toString(), "java.util.ArrayList java.util.Arrays ");
    }

    /** No method has more than sixty lines. */
    private static void methods(String code) {
        String[] lines = code.split("\n");
        int begun = -1;
        String indent = "";
        for (int i = 0; i < lines.length; i++) {
            Matcher head = Pattern.compile("^( {4}| {8})(?! )[\\w<>\\[\\] ]+\\([^;=]*\\) \\{$").matcher(lines[i]);
            if (begun < 0 && head.find()) {
                begun = i;
                indent = head.group(1);
            } else if (begun >= 0 && lines[i].equals(indent + "}")) {
                due.that("at most sixty lines: " + lines[begun].trim(), i - begun < 60);
                begun = -1;
            }
        }
    }
}
