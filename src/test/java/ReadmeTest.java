import java.io.IOException;
import java.lang.reflect.InvocationTargetException;
import java.lang.reflect.Method;
import java.lang.reflect.Modifier;
import java.nio.file.Files;
import java.nio.file.Path;
import java.util.regex.Matcher;
import java.util.regex.Pattern;

/** Holds the class to the example of README.md, line by line, and README.md to the class: it names every call. */
public final class ReadmeTest extends Checks {
    private static final Pattern MADE = Pattern.compile("PoundVotes x = new PoundVotes\\(\\);");
    private static final Pattern TYPED = Pattern.compile(
            "for \\(char b : \"([^\"]*)\"\\.toCharArray\\(\\)\\) x\\.type\\((\\d), b\\);\\s*(//.*)?");
    private static final Pattern CALLED = Pattern.compile("x\\.(\\w+)\\(([-\\d, ]*)\\);\\s*// (-?\\d+)(:.*)?");

    private static long answer(PoundVotes x, String name, String told) throws IllegalAccessException {
        String[] parts = told.isBlank() ? new String[0] : told.split(", ");
        Object[] arguments = new Object[parts.length];
        for (int i = 0; i < parts.length; i++) arguments[i] = Integer.valueOf(parts[i]);
        for (Method m : PoundVotes.class.getMethods()) {
            if (!m.getName().equals(name) || m.getParameterCount() != parts.length) continue;
            try {
                return ((Number) m.invoke(x, arguments)).longValue();
            } catch (InvocationTargetException e) {
                due("exceptions of " + name + ": " + e.getCause(), 1, 0);
            }
        }
        due("calls " + name + " with " + parts.length + " numbers", 0, 1);
        return 0;
    }

    private static int follow(String example) throws IllegalAccessException {
        PoundVotes x = new PoundVotes();
        int calls = 0;
        for (String line : example.split("\n")) {
            Matcher typed = TYPED.matcher(line), called = CALLED.matcher(line);
            if (typed.matches()) {
                typed(x, Integer.parseInt(typed.group(2)), typed.group(1));
            } else if (called.matches()) {
                calls++;
                due("README: " + line, answer(x, called.group(1), called.group(2)), Long.parseLong(called.group(3)));
            } else if (MADE.matcher(line).matches()) {
                x = new PoundVotes();
            } else if (!line.isBlank()) {
                due("README, lines that this test can't read: " + line, 1, 0);
            }
        }
        return calls;
    }

    private static void namesEveryCall(String readme) {
        for (Method m : PoundVotes.class.getDeclaredMethods()) {
            if (!Modifier.isPublic(m.getModifiers())) continue;
            due("README names " + m.getName(), readme.contains("`" + m.getName() + "`") ? 1 : 0, 1);
        }
    }

    public static void main(String[] args) throws IOException, IllegalAccessException {
        String readme = Files.readString(Path.of("README.md"));
        Matcher example = Pattern.compile("(?s)```java\n(.*?)```").matcher(readme);
        int calls = 0;
        while (example.find()) calls += follow(example.group(1));
        due("README has an example", calls > 0 ? 1 : 0, 1);
        namesEveryCall(readme);
        end("README tells " + calls + " calls as they are");
    }
}
