import java.io.IOException;
import java.lang.reflect.InvocationTargetException;
import java.lang.reflect.Method;
import java.nio.file.Files;
import java.nio.file.Path;
import java.util.List;
import java.util.Set;
import java.util.TreeSet;
import java.util.regex.Matcher;
import java.util.regex.Pattern;

/** The calls that README.md shows answer what it says, and the tests that it names are those that there are. */
public final class ReadmeTest {
    private static final Path README = Path.of("README.md");
    private static final Path TESTS = Path.of("src/test/java");
    private static final Path COMMAND = Path.of(".ci/run");
    private static final String NEW_OBJECT = "    BackByNoonOnMonday x = new BackByNoonOnMonday();";
    private static final Pattern CALL = Pattern.compile(
        "    x\\.(\\w+)\\(([-0-9, ]*)\\); +// (?:(-?\\d+)|throws (\\w+)): .+");

    public static void main(String[] args) throws IOException, IllegalAccessException {
        List<String> lines = Files.readAllLines(README);
        calls(lines);
        tests(String.join("\n", lines));
        Check.end();
    }

    private static void calls(List<String> lines) throws IllegalAccessException {
        BackByNoonOnMonday x = null;
        int shown = 0;
        for (String line : lines) {
            if (line.equals(NEW_OBJECT)) {
                x = new BackByNoonOnMonday();
            } else if (line.startsWith("    x.")) {
                Matcher call = CALL.matcher(line);
                Check.due("README can be read: " + line, x != null && call.matches() ? 1 : 0, 1);
                if (Check.anyWrong()) {
                    return;
                }
                String due = call.group(3) != null ? call.group(3) : call.group(4);
                Check.same("README: " + line, answer(x, call.group(1), call.group(2)), due);
                shown++;
            }
        }
        Check.due("README shows calls", shown > 0 ? 1 : 0, 1);
    }

    /** What the call answers, or the name of what it throws. */
    private static String answer(BackByNoonOnMonday x, String name, String told) throws IllegalAccessException {
        String[] numbers = told.isEmpty() ? new String[0] : told.split(", ");
        Object[] arguments = new Object[numbers.length];
        for (int i = 0; i < numbers.length; i++) {
            arguments[i] = Integer.valueOf(numbers[i]);
        }
        for (Method m : BackByNoonOnMonday.class.getMethods()) {
            if (m.getName().equals(name) && m.getParameterCount() == arguments.length) {
                try {
                    return m.invoke(x, arguments).toString();
                } catch (InvocationTargetException thrown) {
                    return thrown.getCause().getClass().getSimpleName();
                }
            }
        }
        return "no such call";
    }

    private static void tests(String text) throws IOException {
        Check.due("README names the command", text.contains("\n    .ci/run\n") ? 1 : 0, 1);
        Check.due("the command can be run", Files.isExecutable(COMMAND) ? 1 : 0, 1);
        String command = Files.readString(COMMAND);
        Check.due("it runs every test here", command.contains("src/test/java/*Test.java") ? 1 : 0, 1);
        Check.due("it runs every test there", command.contains("../shared/tests") ? 1 : 0, 1);
        Set<String> named = new TreeSet<>();
        Matcher name = Pattern.compile("`(\\w+Test)`").matcher(text);
        while (name.find()) {
            named.add(name.group(1));
        }
        Set<String> there = new TreeSet<>();
        for (String file : TESTS.toFile().list()) {
            if (file.endsWith("Test.java")) {
                there.add(file.substring(0, file.length() - ".java".length()));
            }
        }
        Check.same("the tests that README names", named.toString(), there.toString());
    }
}
