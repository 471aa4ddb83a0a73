import java.io.File;
import java.io.IOException;
import java.lang.reflect.Method;
import java.lang.reflect.Modifier;
import java.nio.file.Files;
import java.nio.file.Path;
import java.util.ArrayList;
import java.util.List;
import java.util.regex.Matcher;
import java.util.regex.Pattern;

/** What README.md says of the class and of its tests is so; it is run in the project's folder. */
public final class ReadmeTest {
    private static final Check CHECK = new Check("ReadmeTest");
    private static final Path README = Path.of("README.md");
    private static final Path TESTS = Path.of("src/test/java");
    private static final Path SELF = TESTS.resolve("ReadmeTest.java");
    private static final Pattern ANSWER = Pattern.compile("int (\\w+) = [^;]*; *// (-?\\d+)\\b.*");

    public static void main(String[] args) throws IOException {
        String readme = Files.readString(README);
        theExampleAnswersAsWritten(readme);
        everyCallIsNamed(readme);
        everyTestIsNamed(readme);
        everyNamedFileIsThere(readme);
        CHECK.end();
    }

    /** The lines of README.md's example, as they are there but for what is written beside them. */
    private static int[] example() {
        RunwayDesk desk = new RunwayDesk();
        desk.gap(0, 1, 120);
        int a = desk.add(0, 0, 100, 900, 3);
        int b = desk.add(1, 0, 110, 900, 5);
        int inTurn = desk.firstCome();
        int delay = desk.solve();
        int first = desk.at(0);
        int when = desk.second(a);
        int accepted = desk.accept();
        desk.close(50, 260);
        int unsound = desk.verify();
        int delayNow = desk.solve();
        int moved = desk.change(0, 0);
        int movedFrom = desk.change(0, 1);
        int movedTo = desk.change(0, 2);
        return new int[] {a, b, inTurn, delay, first, when, accepted, unsound, delayNow, moved,
            movedFrom, movedTo};
    }

    private static void theExampleAnswersAsWritten(String readme) throws IOException {
        List<String> written = between(readme, "```java\n", "```");
        List<String> run = between(Files.readString(SELF), "int[] example() {\n", "return new int[]");
        CHECK.same("the example's lines", written.size(), run.size());
        int[] answers = example();
        int asked = 0;
        for (int i = 0; i < Math.min(written.size(), run.size()); i++) {
            CHECK.isTrue("README.md has " + written.get(i) + ", run is " + run.get(i),
                    written.get(i).replaceAll(" *//.*", "").equals(run.get(i)));
            if (written.get(i).startsWith("int ")) {
                Matcher answer = ANSWER.matcher(written.get(i));
                boolean isTold = answer.matches();
                CHECK.isTrue("README.md tells the answer in " + written.get(i), isTold);
                if (isTold) {
                    CHECK.same(answer.group(1), answers[asked], Integer.parseInt(answer.group(2)));
                }
                asked++;
            }
        }
        CHECK.same("the example's answers", answers.length, asked);
    }

    private static List<String> between(String text, String start, String end) {
        int from = text.indexOf(start);
        CHECK.isTrue("there is " + start, from >= 0);
        List<String> lines = new ArrayList<>();
        if (from >= 0) {
            int begin = from + start.length();
            for (String line : text.substring(begin, text.indexOf(end, begin)).split("\n")) {
                if (!line.isBlank()) {
                    lines.add(line.strip());
                }
            }
        }
        return lines;
    }

    private static void everyCallIsNamed(String readme) {
        for (Method method : RunwayDesk.class.getDeclaredMethods()) {
            if (Modifier.isPublic(method.getModifiers())) {
                CHECK.isTrue("README.md names the call " + method.getName(),
                        readme.contains("`" + method.getName() + "`"));
            }
        }
        CHECK.isTrue("README.md names NONE", readme.contains("`RunwayDesk.NONE`"));
    }

    private static void everyTestIsNamed(String readme) {
        for (String name : TESTS.toFile().list()) {
            if (name.endsWith("Test.java")) {
                CHECK.isTrue("README.md names the test " + name,
                        readme.contains("- `" + TESTS + "/" + name + "`: "));
            }
        }
        CHECK.isTrue("README.md names .ci/run", readme.contains("```sh\n.ci/run\n```"));
        CHECK.isTrue(".ci/run can be run", new File(".ci/run").canExecute());
    }

    private static void everyNamedFileIsThere(String readme) {
        Matcher file = Pattern.compile("`(src/[\\w/]+\\.\\w+)`").matcher(readme);
        int files = 0;
        while (file.find()) {
            files++;
            CHECK.isTrue("README.md names a file that is there: " + file.group(1),
                    Files.isRegularFile(Path.of(file.group(1))));
        }
        CHECK.isTrue("README.md names files", files > 0);
    }
}
