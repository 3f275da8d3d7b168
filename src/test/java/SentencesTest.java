import java.io.IOException;
import java.nio.file.DirectoryStream;
import java.nio.file.Files;
import java.nio.file.Path;
import java.util.Set;
import java.util.TreeSet;
import java.util.regex.Matcher;
import java.util.regex.Pattern;

/**
 * No sentence of the document is left out: every part of a promise, and every sentence of "What it is" and "Terms",
 * is named by a test with Check.promise, Check.whatItIs or Check.terms; and what the tests name stands in the
 * document.
 */
public final class SentencesTest {
    private static final Path DOCUMENT = Path.of("../shared/DOC.md");
    private static final Path TESTS = Path.of("src/test/java");
    private static final Pattern PROMISE = Pattern.compile("Check\\.promise\\((\\d+), \"([^\"]+)\"\\)");
    private static final Pattern WHAT_IT_IS = Pattern.compile("Check\\.whatItIs\\(\"([^\"]+)\"\\)");
    private static final Pattern TERMS = Pattern.compile("Check\\.terms\\(\"([^\"]+)\"\\)");

    public static void main(String[] args) throws IOException {
        if (!Files.isReadable(DOCUMENT)) {
            System.out.println("SentencesTest: there is no " + DOCUMENT + " to compare with");
            return;
        }
        String document = Files.readString(DOCUMENT);
        String tests = allTests();
        promises(document, tests);
        sentences(document, "What it is", "The public face", WHAT_IT_IS, tests);
        sentences(document, "Terms", "Promise 1:", TERMS, tests);
        Check.finish("SentencesTest");
    }

    private static String allTests() throws IOException {
        StringBuilder text = new StringBuilder();
        try (DirectoryStream<Path> files = Files.newDirectoryStream(TESTS, "*Test.java")) {
            for (Path file : files) {
                text.append(Files.readString(file));
            }
        }
        return text.toString();
    }

    private static void promises(String document, String tests) {
        Set<String> named = new TreeSet<>();
        Matcher call = PROMISE.matcher(tests);
        while (call.find()) {
            named.add(call.group(1) + " " + call.group(2));
        }
        Set<String> due = new TreeSet<>();
        String[] sections = document.split("\n## ");
        for (String section : sections) {
            Matcher heading = Pattern.compile("^Promise (\\d+): ").matcher(section);
            if (heading.find()) {
                partsOf(heading.group(1), section, due);
            }
        }
        for (String part : due) {
            Check.isTrue("promise " + part + " is named by a test", named.contains(part));
        }
        for (String part : named) {
            Check.isTrue("promise " + part + " stands in the document", due.contains(part));
        }
    }

    private static void partsOf(String promise, String section, Set<String> parts) {
        parts.add(promise + " does");
        Matcher line = Pattern.compile("(?m)^(?:- `(\\w+)`:|(Returns) |(Throws) `(\\w+)`)").matcher(section);
        while (line.find()) {
            if (line.group(1) != null) {
                parts.add(promise + " " + line.group(1));
            } else if (line.group(2) != null) {
                parts.add(promise + " Returns");
            } else {
                parts.add(promise + " Throws " + line.group(4));
            }
        }
    }

    /** The sentences below one heading and above the next one that is told here. */
    private static void sentences(String document, String heading, String next, Pattern naming, String tests) {
        int begin = document.indexOf("\n## " + heading + "\n");
        int end = document.indexOf("\n## " + next);
        boolean isThere = begin >= 0 && end > begin;
        Check.isTrue("the document has \"" + heading + "\"", isThere);
        if (!isThere) {
            return;
        }
        String text = document.substring(begin + heading.length() + 5, end).trim().replaceAll("\\s+", " ");
        Set<String> named = new TreeSet<>();
        Matcher call = naming.matcher(tests);
        while (call.find()) {
            named.add(call.group(1));
            Check.isTrue("\"" + call.group(1) + "\" stands in the document", text.contains(call.group(1)));
        }
        for (String sentence : text.split("(?<=[.:;])\\)? ")) {
            boolean isTitle = sentence.matches("\\w+\\.");
            boolean isNamed = named.stream().anyMatch(words -> sentence.contains(words) || words.contains(sentence));
            Check.isTrue("\"" + sentence + "\" is named by a test", isTitle || isNamed);
        }
    }
}
