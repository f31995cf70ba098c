import java.lang.reflect.InvocationTargetException;
import java.lang.reflect.Method;
import java.nio.file.Files;
import java.nio.file.Path;
import java.util.Arrays;
import java.util.regex.Matcher;
import java.util.regex.Pattern;

/** What README.md says that a call answers is what it answers. */
public final class ReadmeTest {
    private static final Due due = new Due("ReadmeTest");
    private static final Pattern MADE = Pattern.compile("PrivateViews x = new PrivateViews\\(\\);");
    private static final Pattern FED = Pattern.compile("feed\\(x, \"([^\"]*)\"\\);");
    private static final Pattern CALL =
            Pattern.compile("x\\.(\\w+)\\(([^)]*)\\);(?:\\s+// (throws \\w+|\\S+).*)?");

    private static PrivateViews x = new PrivateViews();

    /** Runs in the project's directory, where README.md stands. */
    public static void main(String[] args) throws Exception {
        Path readme = Path.of("README.md");
        boolean code = false;
        int lines = 0;
        for (String line : Files.readAllLines(readme)) {
            if (line.startsWith("```")) {
                code = line.equals("```java");
            } else if (code) {
                follow(line.strip());
                lines++;
            }
        }
        int followed = lines;
        due.is("README.md has lines of code", true, () -> followed > 0);
        due.end();
    }

    private static void follow(String line) throws Exception {
        Matcher fed = FED.matcher(line);
        Matcher call = CALL.matcher(line);
        if (MADE.matcher(line).matches()) {
            x = new PrivateViews();
        } else if (fed.matches()) {
            Due.feed(x, fed.group(1));
        } else if (call.matches()) {
            String got = answer(call.group(1), call.group(2));
            due.is(line, call.group(3) == null ? "null" : call.group(3), () -> got);
        } else {
            due.is(line, "a line that can be followed", () -> "none");
        }
    }

    private static String answer(String name, String written) throws Exception {
        Object[] args = written.isEmpty() ? new Object[0]
                : Arrays.stream(written.split(", ")).map(Integer::decode).toArray();
        Class<?>[] types = new Class<?>[args.length];
        Arrays.fill(types, int.class);
        Method method = PrivateViews.class.getMethod(name, types);
        try {
            return String.valueOf(method.invoke(x, args));
        } catch (InvocationTargetException e) {
            return "throws " + e.getCause().getClass().getSimpleName();
        }
    }
}
