import java.lang.reflect.Method;
import java.util.ArrayList;
import java.util.HashMap;
import java.util.List;
import java.util.Map;

/**
 * Each call with all numbers about each bound of the document, in each of its arguments together, in an empty, a middling
 * and a full state: the program has to answer as the model does, and to be as the model is behind it.
 */
public final class Sweep {
    private static final int MIN = Integer.MIN_VALUE, MAX = Integer.MAX_VALUE;
    /** For one and two arguments, for three, for four. */
    private static final int[] MANY = {MIN, MIN + 1, -65536, -257, -256, -129, -128, -41, -40, -21, -20, -19, -11, -10, -9, -5, -4, -3, -2, -1,
        0, 1, 2, 3, 4, 5, 6, 7, 8, 9, 10, 11, 12, 13, 14, 15, 16, 19, 20, 21, 31, 32, 33, 38, 39, 40, 41, 42, 63, 64, 65, 97, 98, 122, 123,
        126, 127, 128, 129, 159, 160, 161, 255, 256, 257, 998, 999, 1000, 1001, 32767, 32768, 65535, 65536, 65537, MAX - 1, MAX};
    private static final int[] SOME = {MIN, -1, 0, 1, 2, 3, 4, 5, 6, 9, 10, 11, 19, 20, 21, 38, 39, 40, 41, 256, 65537, MAX};
    private static final int[] FEW = {MIN, -1, 0, 1, 2, 3, 4, 5, 19, 20, 21, 37, 38, 39, 40, MAX};
    private static final String[] NAMES = {"feed", "end", "text", "fault", "rule", "bolt", "moth", "bale", "fold", "under", "swap", "camphor", "patch",
        "prick", "alter", "set", "go", "ahead", "when", "eats", "duty", "best", "guard", "send", "raise", "mean", "luck", "see", "forget", "tastes",
        "bought", "pricked", "lain", "drift", "keep", "back", "sheet", "lay", "read", "torn", "count"};
    /** What is asked of the state behind a few calls. */
    private static final int ASKED = 75;

    private static final Map<String, Method> MODEL = callsOfModel();
    private static long compared = 0;
    private static int failed = 0;

    private static Map<String, Method> callsOfModel() {
        Map<String, Method> calls = new HashMap<>();
        for (String name : NAMES) {
            for (Method m : Model.class.getDeclaredMethods()) {
                if (m.getName().equals(name) && List.of(m.getParameterTypes()).equals(List.of(Run.ofFace(name).getParameterTypes()))) calls.put(name, m);
            }
        }
        return calls;
    }

    static Method ofModel(String name) { return MODEL.get(name); }

    /** The program and the model behind the same calls. */
    private static final class Both {
        private final Run program;
        private final Model model;
        private final StringBuilder told = new StringBuilder();

        Both(State s) {
            program = s.made();
            model = new Model();
            for (State.Call c : s.recipe()) Run.answer(model, MODEL.get(c.name()), c.args());
        }

        boolean spent() { return program.left() < ASKED + 1; }

        boolean same(String name, int... args) {
            long got = program.call(name, args), due = Run.answer(model, MODEL.get(name), args);
            compared++;
            told.append(Edges.told(name, args)).append(" = ").append(due).append('\n');
            if (got == due) return true;
            failed++;
            System.out.println(told + "the last call answered " + got);
            return false;
        }

        boolean sameState() {
            boolean same = true;
            for (int i = 0; i < 7 && same; i++) same = same("rule", i);
            for (int b = 0; b < 5 && same; b++) for (int i = 2; i < 6 && same; i++) same = same("bolt", b, i);
            for (int m = 0; m < 4 && same; m++) for (int i = 0; i < 4 && same; i++) same = same("moth", m, i);
            for (int k = 0; k < 3 && same; k++) for (int i = 0; i < 5 && same; i++) same = same("bale", k, 10 + i);
            for (int i = 0; i < 5 && same; i++) same = same("count", i);
            return same && same("torn") && same("pricked", 0) && same("pricked", 1);
        }
    }

    private static void sweep(State s, String name) {
        int n = Run.ofFace(name).getParameterCount();
        int[] values = n < 3 ? MANY : n == 3 ? SOME : FEW;
        int all = 1;
        for (int i = 0; i < n; i++) all *= values.length;
        Both both = new Both(s);
        for (int at = 0; at < all && failed < 5; at++) {
            int[] args = new int[n];
            for (int i = 0, y = at; i < n; i++, y /= values.length) args[i] = values[y % values.length];
            if (both.spent()) {
                if (!both.sameState()) return;
                both = new Both(s);
            }
            if (!both.same(name, args)) return;
        }
        both.sameState();
    }

    public static void main(String[] args) {
        List<String> failing = new ArrayList<>();
        for (State s : State.values()) {
            for (String name : NAMES) {
                int before = failed;
                sweep(s, name);
                if (failed > before) failing.add(s + " " + name);
            }
        }
        System.out.println("sweep: " + compared + " answers compared, " + failed + " other than the model's " + failing);
        if (failed > 0) System.exit(1);
    }
}
