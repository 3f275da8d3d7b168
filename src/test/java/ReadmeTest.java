import java.io.File;
import java.io.IOException;
import java.lang.reflect.InvocationTargetException;
import java.lang.reflect.Method;
import java.lang.reflect.Modifier;
import java.nio.file.DirectoryStream;
import java.nio.file.Files;
import java.nio.file.Path;
import java.util.ArrayList;
import java.util.List;
import java.util.Set;
import java.util.TreeSet;
import java.util.regex.Matcher;
import java.util.regex.Pattern;

/** README.md holds as it is written: the answers of its example, its commands and its table of tests. */
public final class ReadmeTest {
    private static final Path README = Path.of("README.md");
    private static final Path TESTS = Path.of("src/test/java");
    private static final String NEW_DESK = "Stagecargo desk = new Stagecargo();";
    private static final Pattern CALL = Pattern.compile("desk\\.(\\w+)\\((.*)\\); +// (throws \\w+|[^:]+): .+");
    private static final String OUT = "/tmp/out";

    public static void main(String[] args) throws IOException, InterruptedException {
        String readme = Files.readString(README);
        commands(blocks(readme, ""));
        table(readme);
        example(blocks(readme, "java"));
        Check.finish("ReadmeTest");
    }

    /** The lines of all blocks with this name, in their order. */
    private static List<String> blocks(String readme, String name) {
        List<String> lines = new ArrayList<>();
        Matcher block = Pattern.compile("(?ms)^```(\\w*)\n(.*?)^```$").matcher(readme);
        while (block.find()) {
            if (block.group(1).equals(name)) {
                lines.addAll(List.of(block.group(2).split("\n")));
            }
        }
        return lines;
    }

    // ---- The example

    private static void example(List<String> lines) {
        Check.whatItIs("The rigging desk of a touring show:");
        Check.dueText("the example begins with", NEW_DESK, lines.get(0));
        Check.whatItIs("points that bear parts of pieces by lever and angle, pieces in trucks that can be late");
        Stagecargo desk = new Stagecargo();
        Set<String> shown = new TreeSet<>();
        for (String line : lines.subList(1, lines.size())) {
            Matcher call = CALL.matcher(line);
            boolean isCall = call.matches();
            Check.isTrue("a call and its answer: " + line, isCall);
            if (isCall) {
                shown.add(call.group(1));
                Check.dueText(line, call.group(3), answer(desk, call.group(1), call.group(2)));
            }
        }
        Check.dueText("the example shows all calls", publicMethods().toString(), shown.toString());
    }

    private static Set<String> publicMethods() {
        Set<String> names = new TreeSet<>();
        for (Method method : Stagecargo.class.getDeclaredMethods()) {
            if (Modifier.isPublic(method.getModifiers())) {
                names.add(method.getName());
            }
        }
        return names;
    }

    private static String answer(Stagecargo desk, String name, String arguments) {
        String[] words = arguments.isEmpty() ? new String[0] : arguments.split(", ");
        Class<?>[] types = new Class<?>[words.length];
        Object[] numbers = new Object[words.length];
        for (int i = 0; i < words.length; i++) {
            types[i] = int.class;
            numbers[i] = Integer.valueOf(words[i]);
        }
        try {
            Object answer = Stagecargo.class.getMethod(name, types).invoke(desk, numbers);
            return answer instanceof Character ? "'" + answer + "'" : answer.toString();
        } catch (InvocationTargetException e) {
            return "throws " + e.getCause().getClass().getSimpleName();
        } catch (ReflectiveOperationException e) {
            return "no such call: " + e;
        }
    }

    // ---- The commands

    private static void commands(List<String> lines) throws IOException, InterruptedException {
        Check.due("commands", 2, lines.size());
        Check.dueText("all tests", ".ci/run", lines.get(0));
        // This test is itself run by .ci/run, which would run it again.
        Check.isTrue(".ci/run may be run", Files.isExecutable(Path.of(".ci/run")));
        Path out = Files.createTempDirectory("readme");
        String single = lines.get(1);
        Check.isTrue("a single test is compiled to " + OUT, single.contains(OUT));
        Process run = new ProcessBuilder("bash", "-c", single.replace(OUT, out.toString()))
                .redirectErrorStream(true).start();
        String said = new String(run.getInputStream().readAllBytes());
        Check.dueText(single + "\n" + said, "ends with 0", "ends with " + run.waitFor());
        Check.isTrue("it says what it found: " + said, said.matches("RigTest: \\d+ checks, 0 not as due\\s*"));
        clear(out.toFile());
    }

    private static void clear(File directory) {
        File[] files = directory.listFiles();
        if (files != null) {
            for (File file : files) {
                clear(file);
            }
        }
        Check.isTrue("left behind: " + directory, directory.delete());
    }

    // ---- The table

    private static void table(String readme) throws IOException {
        Set<String> named = new TreeSet<>();
        Matcher row = Pattern.compile("(?m)^\\| (\\w+Test) \\|").matcher(readme);
        while (row.find()) {
            named.add(row.group(1));
        }
        Set<String> there = new TreeSet<>();
        try (DirectoryStream<Path> files = Files.newDirectoryStream(TESTS, "*Test.java")) {
            for (Path file : files) {
                there.add(file.getFileName().toString().replace(".java", ""));
            }
        }
        Check.dueText("the tests in the table", there.toString(), named.toString());
    }
}
