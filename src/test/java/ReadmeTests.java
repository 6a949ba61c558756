import java.io.IOException;
import java.lang.reflect.Method;
import java.lang.reflect.Modifier;
import java.nio.charset.StandardCharsets;
import java.nio.file.Files;
import java.nio.file.Path;
import java.util.regex.Matcher;
import java.util.regex.Pattern;

/** What README.md shows: its calls, one behind another on one object, answer what stands behind them. */
public final class ReadmeTests {
    private static final Pattern FED = Pattern.compile("for \\(char c : \"([^\"]*)\"\\.toCharArray\\(\\)\\) x\\.feed\\(c\\);");
    private static final Pattern CALL = Pattern.compile("x\\.(\\w+)\\(([^)]*)\\); *// (-?\\d+):? .*");

    private static final Checks CHECKS = new Checks("readme");

    private static int[] numbers(String told) {
        if (told.isEmpty()) return new int[0];
        String[] each = told.split(", ");
        int[] args = new int[each.length];
        for (int i = 0; i < args.length; i++) args[i] = Integer.parseInt(each[i]);
        return args;
    }

    private static void shown(String readme) {
        Run r = null;
        boolean code = false;
        for (String line : readme.split("\n")) {
            Matcher fed = FED.matcher(line), call = CALL.matcher(line);
            if (line.startsWith("```")) {
                code = line.equals("```java");
            } else if (code && line.equals("MothCustoms x = new MothCustoms();")) {
                r = new Run();
            } else if (code && r != null && fed.matches()) {
                r.feed(fed.group(1));
            } else if (code && r != null && call.matches()) {
                long got = r.call(call.group(1), numbers(call.group(2)));
                CHECKS.hold(line + " answered " + got, got == Long.parseLong(call.group(3)));
            } else if (code && !line.isEmpty()) {
                CHECKS.hold("not understood: " + line, false);
            }
        }
    }

    /** Each call of the face stands there, with as many arguments as it takes. */
    private static void named(String readme) {
        for (Method m : MothCustoms.class.getDeclaredMethods()) {
            if (!Modifier.isPublic(m.getModifiers())) continue;
            String arguments = m.getParameterCount() == 0 ? "" : "\\w+(, \\w+){" + (m.getParameterCount() - 1) + "}";
            CHECKS.hold("no word of " + m, Pattern.compile("`" + m.getName() + "\\(" + arguments + "\\)`").matcher(readme).find());
        }
        for (String answer : new String[] {"BAD", "STATE", "FULL", "NONE"}) CHECKS.hold("no word of " + answer, readme.contains("`" + answer + "` (-"));
        CHECKS.hold("no word of " + Run.MOST_CALLS + " calls", readme.contains("At most " + Run.MOST_CALLS + " "));
        CHECKS.hold("no word of .ci/run", readme.contains(".ci/run"));
    }

    public static void main(String[] args) throws IOException {
        String readme = new String(Files.readAllBytes(Path.of(args[0])), StandardCharsets.UTF_8);
        shown(readme);
        named(readme);
        CHECKS.end();
    }
}
