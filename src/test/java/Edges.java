import java.util.ArrayList;
import java.util.EnumMap;
import java.util.List;
import java.util.Map;

/** What the tests of the document's edges share: each names its promise and the sentence that it is of. */
abstract class Edges {
    static final int BAD = -1, STATE = -2, FULL = -3, NONE = -4;
    static final int MIN = Integer.MIN_VALUE, MAX = Integer.MAX_VALUE;

    /** The bounds of one argument; those of bolts and moths lie where the state has its last one. */
    record Bound(int least, int most, boolean ofBolts, boolean ofMoths, boolean just) {
        int most(State s) { return ofBolts ? s.bolts - 1 : ofMoths ? s.moths - 1 : most; }
    }

    static final Bound BOLT = new Bound(0, 0, true, false, false);
    static final Bound MOTH = new Bound(0, 0, false, true, false);
    static final Bound BALE = within(0, 2);
    static final Bound ONE_OR_OTHER = within(0, 1);

    static Bound within(int least, int most) { return new Bound(least, most, false, false, false); }

    /** An argument that takes every number, so that none is wrong. */
    static Bound just(int v) { return new Bound(v, v, false, false, true); }

    private static Words words;
    private static final Map<State, String[]> before = new EnumMap<>(State.class);
    private static int promise = 0;
    private static String sentence = "";
    private static int sentences = 0, here = 0, passed = 0, failed = 0;
    private static boolean[] tested;

    static void begin(Words document) {
        words = document;
        tested = new boolean[document.promises() + 1];
    }

    /** What follows, up to the next sentence, is the test of this one. */
    static void says(int which, String itsWords) {
        closeSentence();
        promise = which;
        sentence = itsWords;
        sentences++;
        if (which >= 1 && which < tested.length) tested[which] = true;
        if (!words.quote(which, itsWords)) fail("these words stand neither there nor in the Terms");
    }

    private static void closeSentence() {
        if (!sentence.isEmpty() && here == 0) fail("nothing is tested");
        here = 0;
    }

    private static void fail(String what) {
        failed++;
        System.out.println("promise " + promise + ", \"" + sentence + "\": " + what);
    }

    static boolean allHold() {
        closeSentence();
        for (String left : words.neverQuoted()) {
            failed++;
            System.out.println("no test is of these words: " + left);
        }
        for (int p = 1; p < tested.length; p++) {
            if (!tested[p]) fail("promise " + p + " has no test");
        }
        System.out.println("edges: " + sentences + " sentences, " + passed + " passed, " + failed + " failed");
        return failed == 0;
    }

    static void holds(String what, boolean is) {
        here++;
        if (is) passed++;
        else fail(what);
    }

    static String told(String name, int... args) {
        List<String> numbers = new ArrayList<>();
        for (int a : args) numbers.add(a == MIN ? "the smallest int" : a == MAX ? "the largest int" : Integer.toString(a));
        return name + "(" + String.join(", ", numbers) + ")";
    }

    static void due(Run r, long want, String name, int... args) {
        long got = r.call(name, args);
        holds(told(name, args) + " answered " + got + ", due is " + want, got == want);
    }

    static void piles(Run r, long first, long second, long third) {
        long[] want = {first, second, third};
        for (int k = 0; k < 3; k++) {
            long got = r.pile(k);
            holds("bale " + k + " is " + got + ", due is " + want[k], got == want[k]);
        }
    }

    /** The call answers so, and all is as it was: shown by each way of asking, beside an object without the call. */
    static void leaves(long want, State s, String name, int... args) {
        String[] was = before.computeIfAbsent(s, Edges::asMade);
        for (int way = 0; way < State.WAYS; way++) {
            Run r = s.made();
            if (way == 0) due(r, want, name, args);
            else r.call(name, args);
            String is = State.seenOf(r, way);
            holds(s + ": " + told(name, args) + " changed what was: " + firstOther(was[way], is), is.equals(was[way]));
        }
    }

    private static String[] asMade(State s) {
        String[] was = new String[State.WAYS];
        for (int way = 0; way < State.WAYS; way++) was[way] = State.seenOf(s.made(), way);
        return was;
    }

    static String firstOther(String was, String is) {
        String[] a = was.split("\n"), b = is.split("\n");
        for (int i = 0; i < a.length && i < b.length; i++) if (!a[i].equals(b[i])) return a[i] + " became " + b[i];
        return "";
    }

    /** Just outside the bounds, further out, by what a mask would hide, and the ends of all ints. */
    static int[] outside(int least, int most) {
        return new int[] {least - 1, most + 1, most + 2, least - 256, most + 256, most + 65536, MIN, MIN + 1, MAX - 1, MAX};
    }

    /** The last numbers that are taken, and the first that are refused. */
    static void bounds(String name, Bound... bounds) {
        takesTheEnds(name, bounds);
        badOutside(name, bounds);
    }

    /** In each state, each argument in turn goes out of its bounds, the others being at an end of theirs: BAD, and nothing changes. */
    private static void badOutside(String name, Bound... bounds) {
        for (State s : State.values()) {
            for (int i = 0; i < bounds.length; i++) {
                if (bounds[i].just()) continue;
                for (int v : outside(bounds[i].least(), bounds[i].most(s))) {
                    leaves(BAD, s, name, ends(s, bounds, i, v, false));
                    leaves(BAD, s, name, ends(s, bounds, i, v, true));
                }
            }
        }
    }

    private static int[] ends(State s, Bound[] bounds, int i, int v, boolean upper) {
        int[] args = new int[bounds.length];
        for (int j = 0; j < bounds.length; j++) args[j] = upper ? bounds[j].most(s) : bounds[j].least();
        args[i] = v;
        return args;
    }

    /** With each argument at each end of its bounds the call is not BAD, in each state in which there is such an argument. */
    private static void takesTheEnds(String name, Bound... bounds) {
        for (State s : State.values()) {
            for (int ends = 0; ends < 1 << bounds.length; ends++) {
                int[] args = new int[bounds.length];
                boolean are = true;
                for (int j = 0; j < bounds.length; j++) {
                    args[j] = (ends >> j & 1) == 1 ? bounds[j].most(s) : bounds[j].least();
                    are &= bounds[j].most(s) >= bounds[j].least();
                }
                if (!are) continue;
                long got = s.made().call(name, args);
                holds(s + ": " + told(name, args) + " answered " + got + ", which is not to be BAD", got != BAD && got != Run.THREW);
            }
        }
    }

    abstract void tests();
}
