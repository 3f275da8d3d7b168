import java.io.IOException;
import java.nio.file.Files;
import java.nio.file.Path;
import java.util.List;
import java.util.regex.Matcher;
import java.util.regex.Pattern;

/** Rules of LANGUAGE.md that the text of the program shows; the other rules are for the reader. */
public final class LanguageTest {
    private static final Path PROGRAM = Path.of("src/main/java/Stagecargo.java");
    private static final String[] LEFT_OUT = {
        "(?m)^(?!\\s*(case|default)\\b).*->", "::", "\\bfinally\\b", "\\bsynchronized\\b", "\\bassert\\b",
        "\\bSystem\\.(?!arraycopy\\b)", "\\bThread\\b", "\\bRandom\\b", "\\w+Exact\\b", "\\bhashCode\\b",
        "\\bpackage\\b", "\" \\+", "\\+ \"", "\\bThrowable\\b", "\\bException\\b", "\\bArrayIndexOutOfBounds",
        "\\bNullPointer", "\\bClassCast", "\\bNegativeArraySize", "\\bArrayStore",
    };

    public static void main(String[] args) throws IOException {
        String program = Files.readString(PROGRAM).replaceAll("//[^\n]*", "").replaceAll("(?s)/\\*.*?\\*/", "");
        for (String pattern : LEFT_OUT) {
            Check.isTrue("nothing like " + pattern, !Pattern.compile(pattern).matcher(program).find());
        }
        Check.isTrue("signs 1 to 127 alone", program.chars().allMatch(sign -> sign > 0 && sign < 128));
        long imports = Pattern.compile("\\bimport\\b").matcher(program).results().count();
        count(program, "\\bimport java\\.util\\.(ArrayList|Arrays|Iterator|List|NoSuchElementException);", imports);
        count(program, "\\bstatic\\s*\\{", 0);
        Matcher thrown = Pattern.compile("throw new (\\w+)\\((\"[^\"]*\")?\\);").matcher(program);
        List<String> allowed = List.of("IllegalStateException", "IllegalArgumentException", "IndexOutOfBoundsException",
                "ArithmeticException", "UnsupportedOperationException", "NoSuchElementException", "RuntimeException");
        int found = 0;
        while (thrown.find()) {
            found++;
            Check.isTrue("throw new " + thrown.group(1), allowed.contains(thrown.group(1)));
        }
        count(program, "\\bthrow\\b", found);
        bodies(program.split("\n"));
        Check.finish("LanguageTest");
    }

    private static void count(String program, String pattern, long due) {
        Check.due("how often " + pattern, due, Pattern.compile(pattern).matcher(program).results().count());
    }

    /** No method has more than some sixty lines. */
    private static void bodies(String[] lines) {
        int begin = 0;
        for (int i = 0; i < lines.length; i++) {
            if (lines[i].matches("    (    )?\\S.*\\(.*")) {
                begin = i;
            } else if (lines[i].matches("    (    )?}")) {
                Check.isTrue("a short method up to line " + i, i - begin < 70);
            }
        }
    }
}
