import java.nio.file.Files;
import java.nio.file.Path;
import java.util.List;
import java.util.regex.Matcher;
import java.util.regex.Pattern;

/** What LANGUAGE.md rules out and a look at the words of the source can find; told by its rules' numbers. */
public final class LanguageTest {
    private static final Checks due = new Checks("LanguageTest");
    private static final List<String> LIBRARY = List.of("java.util.ArrayList", "java.util.List",
        "java.util.Arrays", "java.util.Iterator");

    public static void main(String[] args) throws Exception {
        Path root = Path.of(System.getProperty("project", "."));
        String source = Files.readString(root.resolve("src/main/java/LineRemarks.java"));
        String code = source.replaceAll("(?s)/\\*.*?\\*/", "").replaceAll("//[^\n]*", "");
        due.that("4: constants of the signs 1 to 127", code.chars().allMatch(c -> c > 0 && c < 128));
        words(code);
        imports(code);
        methods(code);
        due.end();
    }

    private static void none(String code, String rule, String what) {
        Matcher found = Pattern.compile(what).matcher(code);
        boolean is = found.find();
        if (is) {
            System.out.println("found: " + found.group());
        }
        due.that(rule + ": none of " + what, !is);
    }

    private static void words(String code) {
        none(code, "1", "\\bpackage\\b");
        none(code, "2", "::");
        none(code.replaceAll("(?s)\\b(case\\b[^;{}]*?|default\\s*)->", ""), "2", "->");
        none(code, "4", "\\b(System\\.(?!arraycopy)\\w+|Runtime|Exception|HashMap|Map|Set|Objects|Scanner)\\b");
        none(code, "4", "Exact\\(");
        none(code, "5", "\\bstatic\\s*\\{");
        none(code, "6", "\\b(throw|throws|try|catch|finally|synchronized|assert)\\b");
        none(code, "6", "\\b(int|boolean|String) (hashCode|equals|toString)\\(");
        none(code, "13", "\\b(Thread|Random|random|File|Socket|getenv|currentTimeMillis|nanoTime)\\b");
    }

    private static void imports(String code) {
        Matcher found = Pattern.compile("import ([\\w.*]+);").matcher(code);
        while (found.find()) {
            due.that("4: import " + found.group(1), LIBRARY.contains(found.group(1)));
        }
    }

    /** Rule 11: methods of some sixty lines, here taken as seventy at most. */
    private static void methods(String code) {
        String[] lines = code.split("\n");
        int begun = -1;
        String indent = "";
        for (int i = 0; i < lines.length; i++) {
            Matcher head = Pattern.compile("^( {4}| {8})(?! )[\\w<>\\[\\] ]+\\([^;=]*\\) \\{$").matcher(lines[i]);
            if (begun < 0 && head.find()) {
                begun = i;
                indent = head.group(1);
            } else if (begun >= 0 && lines[i].equals(indent + "}")) {
                due.that("11: some sixty lines: " + lines[begun].trim(), i - begun <= 70);
                alone(lines[begun], String.join("\n", List.of(lines).subList(begun + 1, i)));
                begun = -1;
            }
        }
    }

    /** Rule 8: a method that calls itself is a private static one; others call one another. */
    private static void alone(String head, String body) {
        Matcher name = Pattern.compile("(\\w+)\\(").matcher(head);
        boolean calls = name.find() && Pattern.compile("(?<![.\\w])(?<!new )" + name.group(1) + "\\(").matcher(body).find();
        due.that("8: calls itself: " + head.trim(), !calls || head.contains("private static "));
    }
}
