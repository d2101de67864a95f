import java.io.IOException;
import java.lang.reflect.Constructor;
import java.lang.reflect.Field;
import java.lang.reflect.Method;
import java.lang.reflect.Modifier;
import java.nio.file.DirectoryStream;
import java.nio.file.Files;
import java.nio.file.Path;
import java.util.ArrayList;
import java.util.Arrays;
import java.util.List;
import java.util.Set;
import java.util.TreeSet;
import java.util.regex.Pattern;

/** The class has the document's face and no other, and keeps to those rules of LANGUAGE.md that a scan can see. */
public final class FaceTest {
    private static final Checks CHECKS = new Checks();
    private static final Path PROGRAM = Path.of("src/main/java/RouteBudget.java");
    private static final Path DOCUMENT = Path.of("../shared/DOC.md");

    public static void main(String[] args) throws IOException {
        constants();
        signatures();
        members();
        names();
        words();
        promises();
        CHECKS.end();
    }

    private static void constants() {
        CHECKS.yes("NONE = -1", RouteBudget.NONE == -1);
        CHECKS.yes("SYNTAX_ERROR = -2", RouteBudget.SYNTAX_ERROR == -2);
        CHECKS.yes("VALUE_ERROR = -3", RouteBudget.VALUE_ERROR == -3);
        CHECKS.yes("TOO_MANY = -4", RouteBudget.TOO_MANY == -4);
    }

    /** Each signature of the document's face, by types: result, name, parameters, exceptions. */
    private static void signatures() throws IOException {
        String document = Files.readString(DOCUMENT);
        String face = document.substring(document.indexOf("public final class"), document.indexOf("## Description"));
        Set<String> due = new TreeSet<>();
        for (String line : face.split("\n")) {
            if (line.contains("(") && !line.contains("RouteBudget()")) {
                due.add(line.strip().replace("public ", "").replaceAll("(int|boolean) \\w+([,)])", "$1$2")
                        .replace(";", "").replace(", ", ","));
            }
        }
        Set<String> got = new TreeSet<>();
        for (Method method : RouteBudget.class.getDeclaredMethods()) {
            if (Modifier.isPublic(method.getModifiers())) {
                got.add(method.getReturnType().getSimpleName() + " " + method.getName()
                        + listed("(", method.getParameterTypes(), ")")
                        + (method.getExceptionTypes().length == 0 ? "" : listed(" throws ", method.getExceptionTypes(), "")));
            }
        }
        CHECKS.yes("the document has 34 methods", due.size() == 34);
        CHECKS.same("the face", got.toString(), due.toString());
    }

    private static String listed(String before, Class<?>[] types, String behind) {
        List<String> names = new ArrayList<>();
        Arrays.stream(types).forEach(type -> names.add(type.getSimpleName()));
        return before + String.join(",", names) + behind;
    }

    private static void members() {
        int modifiers = RouteBudget.class.getModifiers();
        CHECKS.yes("public final class", Modifier.isPublic(modifiers) && Modifier.isFinal(modifiers));
        Constructor<?>[] constructors = RouteBudget.class.getDeclaredConstructors();
        CHECKS.yes("one constructor, public and without parameters", constructors.length == 1
                && Modifier.isPublic(constructors[0].getModifiers()) && constructors[0].getParameterCount() == 0);
        Set<String> constants = Set.of("NONE", "SYNTAX_ERROR", "VALUE_ERROR", "TOO_MANY");
        for (Field field : RouteBudget.class.getDeclaredFields()) {
            boolean isConstant = constants.contains(field.getName());
            CHECKS.yes(field + " is private or of the face",
                    isConstant ? Modifier.isPublic(field.getModifiers()) : Modifier.isPrivate(field.getModifiers()));
            CHECKS.yes(field + " is final if static",
                    !Modifier.isStatic(field.getModifiers()) || Modifier.isFinal(field.getModifiers()));
        }
        for (Method method : RouteBudget.class.getDeclaredMethods()) {
            CHECKS.yes(method + " is public or private", method.isSynthetic()
                    || Modifier.isPublic(method.getModifiers()) || Modifier.isPrivate(method.getModifiers()));
        }
        for (Class<?> inner : RouteBudget.class.getDeclaredClasses()) {
            CHECKS.yes(inner + " is private or package-visible", !Modifier.isPublic(inner.getModifiers())
                    && !Modifier.isProtected(inner.getModifiers()));
        }
        CHECKS.yes("some twelve classes", RouteBudget.class.getDeclaredClasses().length <= 12);
    }

    /** No method besides the face bears a name of the face, and none has more than seven parameters. */
    private static void names() {
        Set<String> face = new TreeSet<>();
        List<Method> own = new ArrayList<>();
        for (Method method : RouteBudget.class.getDeclaredMethods()) {
            if (Modifier.isPublic(method.getModifiers())) {
                face.add(method.getName());
            } else {
                own.add(method);
            }
        }
        for (Method method : own) {
            CHECKS.yes(method + " has a name of its own", !face.contains(method.getName()));
        }
        for (Class<?> inner : RouteBudget.class.getDeclaredClasses()) {
            own.addAll(Arrays.asList(inner.getDeclaredMethods()));
            long fields = Arrays.stream(inner.getDeclaredFields()).filter(field -> !Modifier.isStatic(field.getModifiers()))
                    .count();
            CHECKS.yes(inner + " has some twenty fields", fields <= 20);
        }
        for (Method method : own) {
            CHECKS.yes(method + " has at most seven parameters", method.getParameterCount() <= 7);
        }
    }

    /** Words and signs that the rules leave out, and imports beyond their library. */
    private static void words() throws IOException {
        String source = Files.readString(PROGRAM).replaceAll("(?s)/\\*.*?\\*/", "").replaceAll("//[^\n]*", "");
        for (String word : List.of("synchronized", "assert", "finally", "package", "System\\.out", "Math\\.\\w+Exact",
                "getMessage", "hashCode", "native", "volatile", "ArrayIndexOutOfBoundsException", "NullPointerException",
                "ClassCastException", "NegativeArraySizeException", "ArrayStoreException")) {
            CHECKS.yes("no " + word + " in the program", !Pattern.compile("\\b" + word + "\\b").matcher(source).find());
        }
        CHECKS.yes("no method reference", !source.contains("::"));
        Set<String> library = Set.of("ArrayList", "List", "Iterator", "Arrays", "NoSuchElementException");
        for (String line : source.split("\n")) {
            if (line.startsWith("import ")) {
                CHECKS.yes(line + " is allowed", library.contains(line.replaceAll("import java\\.util\\.(\\w+);.*", "$1")));
            }
        }
    }

    /** Each promise has a run that names it. */
    private static void promises() throws IOException {
        StringBuilder tests = new StringBuilder();
        try (DirectoryStream<Path> files = Files.newDirectoryStream(Path.of("src/test/java"), "*Test.java")) {
            for (Path file : files) {
                tests.append(Files.readString(file));
            }
        }
        for (int promise = 1; promise <= 35; promise++) {
            CHECKS.yes("a test names promise " + promise, tests.indexOf("\"promise " + promise + ", ") >= 0);
        }
    }
}
