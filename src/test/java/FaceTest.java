import java.io.IOException;
import java.lang.reflect.Constructor;
import java.lang.reflect.Field;
import java.lang.reflect.Method;
import java.lang.reflect.Modifier;
import java.nio.file.Files;
import java.nio.file.Path;
import java.util.NoSuchElementException;
import java.util.Set;
import java.util.TreeSet;
import java.util.regex.Matcher;
import java.util.regex.Pattern;

/** The public face: just the members that the document names, and what each may throw. */
public final class FaceTest {
    private static final Path DOCUMENT = Path.of("../shared/DOC.md");
    private static final String[] FACE = {
        "int addPoint(int, int) IllegalArgumentException IllegalStateException",
        "int addPiece(int, int, int, int) IllegalArgumentException IllegalStateException",
        "int fix(int, int, int, int, int) NoSuchElementException IndexOutOfBoundsException "
                + "IllegalArgumentException IllegalStateException",
        "int need(int, int) NoSuchElementException IllegalArgumentException "
                + "UnsupportedOperationException IllegalStateException",
        "int setArrival(int, int) IndexOutOfBoundsException IllegalArgumentException IllegalStateException",
        "int addTown(int, int, int, int) IllegalArgumentException IllegalStateException",
        "int setRates(int, int, int, int) NoSuchElementException IllegalArgumentException",
        "int come(int) NoSuchElementException",
        "int town() NoSuchElementException",
        "int loadOn(int, int) NoSuchElementException IndexOutOfBoundsException",
        "int mayBear(int) IndexOutOfBoundsException IllegalStateException",
        "int bears(int) IndexOutOfBoundsException",
        "char reason(int) NoSuchElementException",
        "int hang(int) NoSuchElementException IllegalStateException",
        "int takeDown() IllegalStateException",
        "int hung()",
        "int hungAt(int) IndexOutOfBoundsException",
        "int beginOf(int) NoSuchElementException",
        "int end()",
        "int work()",
        "long cost()",
        "long costByMinutes()",
        "int bestWorth()",
        "int bestByAll()",
        "int bestEnd()",
        "int bestCost()",
        "int bestSize()",
        "int bestAt(int) IndexOutOfBoundsException",
        "int complete()",
        "int completions()",
        "int tightest() IllegalStateException NoSuchElementException",
        "float hungShare() ArithmeticException",
        "double meanLoad() ArithmeticException",
        "boolean isSound()",
    };

    public static void main(String[] args) throws IOException {
        Check.isTrue("the class is public and final",
                Modifier.isPublic(Stagecargo.class.getModifiers())
                        && Modifier.isFinal(Stagecargo.class.getModifiers()));
        methods();
        constructors();
        document();
        for (Field field : Stagecargo.class.getDeclaredFields()) {
            Check.isTrue("field " + field.getName() + " is private", Modifier.isPrivate(field.getModifiers()));
            boolean isStatic = Modifier.isStatic(field.getModifiers());
            Check.isTrue("field " + field.getName() + " is final, if static",
                    !isStatic || Modifier.isFinal(field.getModifiers()));
        }
        for (Class<?> inside : Stagecargo.class.getDeclaredClasses()) {
            Check.isTrue("class " + inside.getName() + " is static and not open to all",
                    Modifier.isStatic(inside.getModifiers()) && !Modifier.isPublic(inside.getModifiers())
                            && !Modifier.isProtected(inside.getModifiers()));
        }
        Check.finish("FaceTest");
    }

    private static void methods() {
        Set<String> due = new TreeSet<>(Set.of(FACE));
        Set<String> got = new TreeSet<>();
        Set<String> names = new TreeSet<>();
        for (Method method : Stagecargo.class.getDeclaredMethods()) {
            if (Modifier.isPublic(method.getModifiers())) {
                got.add(told(method));
                names.add(method.getName());
            }
        }
        Check.dueText("the public methods", due.toString(), got.toString());
        for (Method method : Stagecargo.class.getDeclaredMethods()) {
            if (!Modifier.isPublic(method.getModifiers())) {
                Check.isTrue("method " + method.getName() + " is private and bears no public name",
                        Modifier.isPrivate(method.getModifiers()) && !names.contains(method.getName()));
            }
        }
    }

    /** The document tells each method twice: in its face, and at the method's promise. */
    private static void document() throws IOException {
        if (!Files.isReadable(DOCUMENT)) {
            System.out.println("FaceTest: there is no " + DOCUMENT + " to compare with");
            return;
        }
        String document = Files.readString(DOCUMENT);
        String due = new TreeSet<>(Set.of(FACE)).toString();
        Check.dueText("the face in the document", due, told(document, "(?m)^    public (\\w+ \\w+\\(.*\\).*);$"));
        Check.dueText("the promises in the document", due, told(document, "(?m)^`(\\w+ \\w+\\(.*\\).*)`: "));
    }

    private static String told(String document, String pattern) {
        Set<String> all = new TreeSet<>();
        Matcher method = Pattern.compile(pattern).matcher(document);
        while (method.find()) {
            all.add(method.group(1).replaceAll("int \\w+(?=[,)])", "int").replace(" throws", "")
                    .replaceAll("(?<=Exception), ", " "));
        }
        return all.toString();
    }

    private static void constructors() {
        Constructor<?>[] all = Stagecargo.class.getDeclaredConstructors();
        Check.due("one constructor", 1, all.length);
        Check.isTrue("public and without parameters",
                Modifier.isPublic(all[0].getModifiers()) && all[0].getParameterCount() == 0);
    }

    private static String told(Method method) {
        StringBuilder text = new StringBuilder();
        text.append(method.getReturnType().getSimpleName()).append(' ').append(method.getName()).append('(');
        String between = "";
        for (Class<?> type : method.getParameterTypes()) {
            text.append(between).append(type.getSimpleName());
            between = ", ";
        }
        text.append(')');
        for (Class<?> type : method.getExceptionTypes()) {
            text.append(' ').append(type.getSimpleName());
            Check.isTrue("the exception that is meant",
                    type == NoSuchElementException.class || type.getPackageName().equals("java.lang"));
        }
        return text.toString();
    }
}
