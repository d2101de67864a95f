import java.io.IOException;
import java.nio.file.Files;
import java.nio.file.Path;
import java.util.regex.Matcher;
import java.util.regex.Pattern;

/** What README.md says about calls and their answers is true, and it shows each method of the face. */
public final class ReadmeTest {
    private static final Checks CHECKS = new Checks();
    private static final Path README = Path.of("README.md");
    private static final String NEW = "RouteBudget x = new RouteBudget();";
    /** A call, and behind it the answer, or the exception that it throws, up to the colon. */
    private static final Pattern CALL = Pattern.compile("(x\\.|load\\(x, )(.*?);\\s+// (.+?): .*");
    private static Run run;

    public static void main(String[] args) throws IOException {
        String readme = Files.readString(README);
        for (String line : readme.split("\n")) {
            readLine(line);
        }
        methods(readme);
        CHECKS.end();
    }

    private static void readLine(String line) {
        if (line.equals(NEW)) {
            run = new Run(CHECKS, "README");
        }
        if (line.startsWith("x.") || line.startsWith("load(x")) {
            Matcher parts = CALL.matcher(line);
            boolean isCall = run != null && parts.matches();
            CHECKS.yes("a call with its answer: " + line, isCall);
            if (isCall) {
                compare(parts.group(1).equals("x."), parts.group(2), parts.group(3).replace("throws ", "throws."));
            }
        }
    }

    private static void compare(boolean isPlain, String call, String due) {
        if (isPlain) {
            run.due(call, due);
        } else {
            run.load(call.substring(1, call.length() - 2), Integer.parseInt(due));
        }
    }

    private static void methods(String readme) {
        for (java.lang.reflect.Method method : RouteBudget.class.getMethods()) {
            if (method.getDeclaringClass() == RouteBudget.class) {
                String name = method.getName();
                CHECKS.yes("README shows " + name, readme.contains("x." + name + "(") || readme.contains("`" + name + "`"));
            }
        }
    }
}
