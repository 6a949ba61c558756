import java.io.IOException;
import java.lang.reflect.Constructor;
import java.lang.reflect.Field;
import java.lang.reflect.Method;
import java.lang.reflect.Modifier;
import java.nio.charset.StandardCharsets;
import java.nio.file.Files;
import java.nio.file.Path;
import java.util.ArrayList;
import java.util.List;
import java.util.Set;
import java.util.TreeSet;
import java.util.regex.Matcher;
import java.util.regex.Pattern;

/**
 * The document outside of its Terms and its promises, read from its file: for how many calls an object is used, the
 * public face, the order of the calls with what stands ahead of them, and the promises' headings.
 */
public final class DocumentTests {
    /** A call of each kind, with numbers that are right where there are three bolts and two moths. */
    private static final String[] CALLS = {"feed 109", "end 3", "text", "fault", "rule 6", "bolt 2 5", "moth 1 5", "bale 0 11", "fold 0 1",
        "under 2 0", "swap 0 2", "camphor 0 1", "patch 0 1", "prick 2", "alter 0 2 9", "set 1 7", "go 1", "go 20", "ahead 20 0", "when 2",
        "eats 1", "duty 1", "best 0", "best 12", "guard 1", "send 1 0", "raise 1", "mean 3 0", "luck 3 2 1", "see 1 2", "forget 1", "tastes 1",
        "bought", "pricked 0", "pricked 1", "lain 0", "drift -7 20 1", "keep 1", "back 0", "sheet 0 2 40", "lay 0 3 1", "read 0 0 0 3",
        "read 1 1 38 2", "torn", "count 0"};

    private static final Checks CHECKS = new Checks("document");

    private static String behind(String text, String heading) {
        int from = text.indexOf("\n## " + heading + "\n");
        if (from < 0) return "";
        int to = text.indexOf("\n## ", from + 1);
        return text.substring(from, to < 0 ? text.length() : to);
    }

    private static List<String> found(String text, String pattern) {
        List<String> all = new ArrayList<>();
        Matcher m = Pattern.compile(pattern).matcher(text);
        while (m.find()) all.add(m.group(1));
        return all;
    }

    // ---- the public face

    /** As the document writes it, with the types alone. */
    private static String typesOf(String signature) {
        return signature.replaceAll("(int|long|boolean) \\w+([,)])", "$1$2");
    }

    private static String typesOf(Method m) {
        List<String> types = new ArrayList<>();
        for (Class<?> p : m.getParameterTypes()) types.add(p.toString());
        return m.getReturnType() + " " + m.getName() + "(" + String.join(", ", types) + ")";
    }

    private static void face(String document) throws IllegalAccessException {
        String told = behind(document, "The public face");
        Set<String> due = new TreeSet<>(), is = new TreeSet<>();
        for (String signature : found(told, "public ((?:int|long) \\w+\\([^)]*\\));")) due.add(typesOf(signature));
        for (Method m : MothCustoms.class.getDeclaredMethods()) {
            if (Modifier.isPublic(m.getModifiers())) is.add((Modifier.isStatic(m.getModifiers()) ? "static " : "") + typesOf(m));
        }
        CHECKS.hold("its methods are " + due + ", not " + is, !due.isEmpty() && due.equals(is));
        Set<String> constantsDue = new TreeSet<>(found(told, "(\\w+ = -\\d+)")), constants = new TreeSet<>();
        for (Field f : MothCustoms.class.getDeclaredFields()) {
            if (!Modifier.isPublic(f.getModifiers())) continue;
            CHECKS.hold(f + " is a constant", f.getModifiers() == (Modifier.PUBLIC | Modifier.STATIC | Modifier.FINAL) && f.getType() == int.class);
            constants.add(f.getName() + " = " + f.getInt(null));
        }
        CHECKS.hold("its constants are " + constantsDue + ", not " + constants, constantsDue.size() == 4 && constantsDue.equals(constants));
        Constructor<?>[] made = MothCustoms.class.getDeclaredConstructors();
        CHECKS.hold("one constructor, public, of nothing", told.contains("public MothCustoms();") && made.length == 1
            && made[0].getParameterCount() == 0 && Modifier.isPublic(made[0].getModifiers()));
        CHECKS.hold("the class is final", told.contains("public final class MothCustoms {") && Modifier.isFinal(MothCustoms.class.getModifiers()));
    }

    private static void headings(String document) {
        List<String> face = found(behind(document, "The public face"), "public ((?:int|long) \\w+\\([^)]*\\));");
        List<String> promised = found(document, "\n`((?:int|long) \\w+\\([^)]*\\))`: ");
        CHECKS.hold("each call of the face has its promise: " + face + ", " + promised, face.equals(promised));
        CHECKS.hold("the constructor has its promise", document.contains("\n`MothCustoms()`: "));
    }

    /** What stands ahead of the calls, and in which order they stand behind it. */
    private static void order(String document, String source) {
        Matcher m = Pattern.compile("Ahead of the calls (.*?) the interface says: (---- .*)\\.\n").matcher(document);
        int groups = 0;
        while (m.find()) {
            groups++;
            int from = source.indexOf("    // " + m.group(2) + "\n");
            int to = source.indexOf("    // ----", from + 1);
            CHECKS.hold("the source says " + m.group(2), from >= 0 && to > from);
            List<String> names = from < 0 || to < from ? List.of() : found(source.substring(from, to), "\n    public \\w+ (\\w+)\\(");
            CHECKS.hold("behind " + m.group(2) + " stand " + names, names.equals(found(m.group(1), "`(\\w+)`")));
        }
        CHECKS.hold("there are groups of calls", groups > 0);
    }

    // ---- 512 calls

    private static void wholeLife(String document) {
        List<String> told = found(behind(document, "What it is"), "An object is used for at most (\\d+) calls after it has been made");
        CHECKS.hold("an object is used for " + told + " calls", told.equals(List.of(Integer.toString(Run.MOST_CALLS))));
        Set<String> names = new TreeSet<>();
        for (String call : CALLS) {
            names.add(call.split(" ")[0]);
            for (State s : State.values()) life(s, call);
        }
        for (Method m : MothCustoms.class.getDeclaredMethods()) {
            if (Modifier.isPublic(m.getModifiers())) CHECKS.hold("no life of " + m, names.contains(m.getName()));
        }
    }

    /** The same call as often as an object may be used: each time it answers as the model does. */
    private static void life(State s, String call) {
        String[] words = call.split(" ");
        int[] args = new int[words.length - 1];
        for (int i = 0; i < args.length; i++) args[i] = Integer.parseInt(words[i + 1]);
        Run program = s.made();
        Model model = new Model();
        for (State.Call c : s.recipe()) Run.answer(model, Sweep.ofModel(c.name()), c.args());
        Method due = Sweep.ofModel(words[0]);
        // all foldings of five bolts take the model long, and nothing changes by that call
        boolean once = words[0].equals("best");
        long want = Run.answer(model, due, args);
        boolean same = program.call(words[0], args) == want;
        while (program.left() > 0) {
            if (!once) want = Run.answer(model, due, args);
            same &= program.call(words[0], args) == want;
        }
        CHECKS.hold(s + ": " + call + ", again and again up to call " + Run.MOST_CALLS, same);
    }

    public static void main(String[] args) throws IOException, IllegalAccessException {
        String document = new String(Files.readAllBytes(Path.of(args[0])), StandardCharsets.UTF_8);
        String source = new String(Files.readAllBytes(Path.of(args[1])), StandardCharsets.ISO_8859_1);
        face(document);
        headings(document);
        order(document, source);
        wholeLife(document);
        CHECKS.end();
    }
}
