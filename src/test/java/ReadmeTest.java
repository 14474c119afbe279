import java.io.File;
import java.io.IOException;
import java.lang.reflect.Method;
import java.lang.reflect.Modifier;
import java.nio.charset.StandardCharsets;
import java.nio.file.Files;
import java.nio.file.Path;
import java.util.List;
import java.util.TreeSet;
import java.util.regex.Matcher;
import java.util.regex.Pattern;

/** What README.md says is so: its program, its tables, and the names it uses. */
public final class ReadmeTest {
    private static final Path README = Path.of("README.md");
    private static final Path TESTS = Path.of("src", "test", "java");
    private static final Check CHECK = new Check();

    public static void main(String[] args) throws IOException, InterruptedException {
        String readme = Files.readString(README, StandardCharsets.US_ASCII);
        program(readme);
        calls(section(readme, "### The calls"));
        faults(section(readme, "### The faults"));
        classesInside(section(readme, "## How it is made"));
        tests(section(readme, "## Tests"));
        CHECK.finish("ReadmeTest");
    }

    /** From the heading on up to the next one. */
    private static String section(String readme, String heading) {
        int start = readme.indexOf(heading + "\n");
        CHECK.yes("a section " + heading, start >= 0);
        int finish = readme.indexOf("\n#", Math.max(start, 0) + 1);
        return start < 0 ? "" : readme.substring(start, finish < 0 ? readme.length() : finish);
    }

    /** The first block of a kind. */
    private static String block(String readme, String kind) {
        int start = readme.indexOf("```" + kind + "\n") + kind.length() + 4;
        return readme.substring(start, readme.indexOf("```", start));
    }

    private static void program(String readme) throws IOException, InterruptedException {
        Path folder = Files.createTempDirectory("readme");
        Path file = folder.resolve("Example.java");
        Files.writeString(file, block(readme, "java"));
        Process process = new ProcessBuilder(
                Path.of(System.getProperty("java.home"), "bin", "java").toString(),
                "-cp", System.getProperty("java.class.path"), file.toString())
                .redirectErrorStream(true).start();
        String printed = new String(process.getInputStream().readAllBytes(),
                StandardCharsets.US_ASCII).replace("\r", "");
        CHECK.same("the program's exit code", process.waitFor(), 0);
        CHECK.same("the program", printed, block(readme, "text"));
        Files.delete(file);
        Files.delete(folder);
    }

    /** Each call of the face has a row with the exceptions that it declares, in their order. */
    private static void calls(String text) {
        TreeSet<String> rows = new TreeSet<>();
        for (String[] row : rows(text)) {
            Matcher call = Pattern.compile("`(\\w+)\\((.*)\\)`").matcher(row[0]);
            if (call.matches()) {
                int parameters = call.group(2).isEmpty() ? 0 : call.group(2).split(",").length;
                rows.add(call.group(1) + " " + parameters + all("`(\\w+Exception)`", row[2]));
            }
        }
        TreeSet<String> due = new TreeSet<>();
        for (Method method : HelpFile.class.getDeclaredMethods()) {
            if (Modifier.isPublic(method.getModifiers())) {
                StringBuilder thrown = new StringBuilder();
                for (Class<?> type : method.getExceptionTypes()) {
                    thrown.append(' ').append(type.getSimpleName());
                }
                due.add(method.getName() + " " + method.getParameterCount() + thrown);
            }
        }
        CHECK.same("the table of calls", rows.toString(), due.toString());
    }

    private static void faults(String text) {
        int kind = 0;
        for (String[] row : rows(text)) {
            if (!row[0].matches("[0-9]+")) {
                continue;
            }
            kind++;
            CHECK.same("the next kind of fault", Integer.parseInt(row[0]), kind);
            if (row[2].isEmpty()) {
                continue;
            }
            String source = row[2].replace("`", "").replace("\\n", "\n");
            HelpFile file = Use.withSource(source);
            CHECK.same("the fault of " + row[2], file.compile(), kind);
            CHECK.same("the line of " + row[2], file.line(), Integer.parseInt(row[3]));
        }
        CHECK.same("kinds of faults", kind, 10);
    }

    private static void classesInside(String text) {
        TreeSet<String> inside = new TreeSet<>();
        for (Class<?> one : HelpFile.class.getDeclaredClasses()) {
            inside.add(one.getSimpleName());
        }
        CHECK.same("classes inside", set(all("`(\\w+)`", text)).toString(), inside.toString());
    }

    private static void tests(String text) {
        TreeSet<String> there = new TreeSet<>();
        for (File file : TESTS.toFile().listFiles()) {
            String name = file.getName().replace(".java", "");
            if (name.endsWith("Test")) {
                there.add(name);
            } else {
                CHECK.yes("a file of the tests: " + name, file.getName().endsWith(".java"));
            }
        }
        CHECK.same("tests", set(all("`(\\w+Test)`", text)).toString(), there.toString());
        for (String name : set(all("`(\\w+\\.java)`", text))) {
            CHECK.yes("there is " + name, Files.exists(TESTS.resolve(name)));
        }
    }

    /** The rows of tables, each as its cells. */
    private static List<String[]> rows(String text) {
        return text.lines().filter(line -> line.startsWith("| "))
                .map(line -> line.substring(1).split("\\|"))
                .map(ReadmeTest::trimmed).toList();
    }

    private static String[] trimmed(String[] cells) {
        for (int k = 0; k < cells.length; k++) {
            cells[k] = cells[k].trim();
        }
        return cells;
    }

    /** All that a pattern's group finds, each with a blank ahead. */
    private static String all(String pattern, String text) {
        StringBuilder found = new StringBuilder();
        Matcher matcher = Pattern.compile(pattern).matcher(text);
        while (matcher.find()) {
            found.append(' ').append(matcher.group(1));
        }
        return found.toString();
    }

    private static TreeSet<String> set(String words) {
        return new TreeSet<>(List.of(words.trim().split(" ")));
    }
}
