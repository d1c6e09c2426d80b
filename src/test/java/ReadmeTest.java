import java.lang.reflect.Method;
import java.lang.reflect.Modifier;
import java.nio.file.Files;
import java.nio.file.Path;
import java.util.LinkedHashMap;
import java.util.List;
import java.util.Map;
import java.util.TreeMap;
import java.util.regex.Matcher;
import java.util.regex.Pattern;
import java.util.stream.Collectors;
import java.util.stream.Stream;

/** README.md: its example, which stands here to the letter, answers what it tells; each call and test is named. */
public final class ReadmeTest {
    private static final Checks due = new Checks("ReadmeTest");

    public static void main(String[] args) throws Exception {
        Path root = Path.of(System.getProperty("project", "."));
        String page = Files.readString(root.resolve("README.md"));
        String here = Files.readString(root.resolve("src/test/java/ReadmeTest.java"));
        String example = between(page, "```java\n", "```");
        due.same("the example", strip(between(here, "// from README.md\n", "// to here")), strip(example));
        due.same("its answers", new TreeMap<>(answers()).toString(), new TreeMap<>(told(example)).toString());
        calls(page);
        tests(page, root.resolve("src/test/java"));
        due.that("how to run the tests", page.contains("```sh\n.ci/run\n```"));
        due.that("they are run so", Files.isExecutable(root.resolve(".ci/run")));
        due.end();
    }

    private static Map<String, Integer> answers() {
        // from README.md
        LineRemarks x = new LineRemarks();
        x.row(0, 0, 5);                              // shelf 0 holds a row of 5 bytes
        x.set(0, 0, 'a');
        x.set(0, 1, '/');
        x.set(0, 2, 'b');
        x.set(0, 3, '/');
        x.set(0, 4, 'c');
        int first = x.revise(0, LineRemarks.NONE);   // 0: a revision of the lines a, b, c
        x.set(0, 2, 'n');
        int second = x.revise(0, first);             // 1: the lines a, n, c, with 0 as former
        int point = x.remark(1, 0, 0, 2, 2, -1);     // 0: a POINT on line 2 of revision 0
        int caret = x.remark(3, 0, 0, 1, 1, point);  // 1: a CARET on line 1, which answers that
        int followed = x.put(point, second, 0);      // 2: the point follows line c
        int beside = x.put(caret, second, 0);        // 0: b is gone, so the caret goes to the line ahead
        int third = x.drift(1);                      // 2: one more revision, drawn from the latest
        int lost = x.who(third, 1);                  // 0: no remark is lost there (bits)
        int refused = x.put(point, 9, 0);            // -11: there is no revision 9
        int many = x.status(11);                     // 1: how many calls were refused as -1
        // to here
        Map<String, Integer> answers = new LinkedHashMap<>(Map.of("first", first, "second", second, "third", third));
        answers.putAll(Map.of("point", point, "caret", caret, "followed", followed, "beside", beside));
        answers.putAll(Map.of("lost", lost, "refused", refused, "many", many));
        return answers;
    }

    private static String between(String text, String from, String to) {
        int begin = text.indexOf(from);
        int end = begin < 0 ? -1 : text.indexOf(to, begin + from.length());
        return end < 0 ? "" : text.substring(begin + from.length(), end);
    }

    private static String strip(String lines) {
        return lines.lines().map(String::strip).filter(line -> !line.isEmpty()).collect(Collectors.joining("\n"));
    }

    /** What the example's comments tell of its variables. */
    private static Map<String, Integer> told(String example) {
        Map<String, Integer> told = new LinkedHashMap<>();
        Matcher line = Pattern.compile("int (\\w+) = .*; +// (-?\\d+):").matcher(example);
        while (line.find()) {
            told.put(line.group(1), Integer.valueOf(line.group(2)));
        }
        return told;
    }

    private static void calls(String page) {
        for (Method method : LineRemarks.class.getDeclaredMethods()) {
            if (Modifier.isPublic(method.getModifiers())) {
                due.that("`" + method.getName() + "` is told", page.contains("`" + method.getName() + "`"));
            }
        }
    }

    private static void tests(String page, Path folder) throws Exception {
        List<String> names;
        try (Stream<Path> files = Files.list(folder)) {
            names = files.map(file -> file.getFileName().toString().replace(".java", "")).toList();
        }
        for (String name : names) {
            due.that("`" + name + "` is told", page.contains("`" + name + "`"));
        }
    }
}
