import java.util.ArrayList;
import java.util.List;

/** States in which each call is tried at its bounds; made anew as often as wanted, always alike. */
enum State {
    EMPTY(0, 0), SOME(3, 2), FULL(5, 4);

    final int bolts, moths;

    State(int bolts, int moths) {
        this.bolts = bolts;
        this.moths = moths;
    }

    /** A call by its name and its numbers. */
    record Call(String name, int... args) { }

    Run made() {
        Run r = new Run();
        for (Call c : recipe()) r.call(c.name(), c.args());
        return r;
    }

    /** The calls on a new object behind which it is so. */
    List<Call> recipe() {
        List<Call> calls = new ArrayList<>();
        if (this == SOME) some(calls);
        if (this == FULL) full(calls);
        return calls;
    }

    private static void feed(List<Call> calls, String bytes) {
        for (int i = 0; i < bytes.length(); i++) calls.add(new Call("feed", bytes.charAt(i)));
    }

    private static void tell(List<Call> calls, String text) {
        feed(calls, text);
        calls.add(new Call("text"));
    }

    /**
     * HOLES 3 of 3, 2 of 9 (with camphor), 1 of 4; bolts 0, 1 in bale 0, bolt 2 in bale 1; MOON 2, RATE 3, NIGHT 1;
     * three SEEN, as they will be; IMAGE 0 alone; SHEET 0 of six BYTES, SHEET 1 of no SHORTS; torn 3, fault 3;
     * 7 bytes on THE TAPE.
     */
    private static void some(List<Call> calls) {
        tell(calls, "bolt 1 3 0;bolt 2 9 0;bolt 5 4 1;plain 1 2 0;fat 5 6 1;camphor 1;rate 3;moon 3;");
        calls.add(new Call("go", 1));
        calls.add(new Call("patch", 2, 3));
        calls.add(new Call("prick", 1));
        calls.add(new Call("prick", 1));
        calls.add(new Call("see", 0, 3));
        calls.add(new Call("see", 2, 4));
        calls.add(new Call("keep", 0));
        calls.add(new Call("set", 0, 2));
        calls.add(new Call("see", 1, 2));
        calls.add(new Call("sheet", 0, 0, 6));
        int[] cells = {2, 0, 1, 2, 0, 1};
        for (int i = 0; i < 6; i++) calls.add(new Call("lay", 0, i, cells[i]));
        calls.add(new Call("sheet", 1, 1, 0));
        calls.add(new Call("read", 0, 1, 0, 1));
        tell(calls, "moon 4;");
        feed(calls, "rate 5;");
    }

    /**
     * Five bolts (0, 1, 2 in bale 0), eaten up but for bolt 2, which has camphor; four moths; MOON 2, RATE 9, NIGHT 999;
     * six SEEN, as they will be; two IMAGES; four SHEETS of 40 CELLS; 160 bytes on THE TAPE.
     */
    private static void full(List<Call> calls) {
        tell(calls, "bolt0 9 0;bolt1 9 0;bolt2 9 0;bolt3 9 1;bolt4 9 2;"
            + "plain0 9 0;picky3 9 1;glutton0 9 2;fat2 9 0;camphor2;moon3;rate9;");
        for (int i = 0; i < 49; i++) calls.add(new Call("go", 20));
        calls.add(new Call("go", 19));
        int[][] seen = {{0, 9}, {1, 9}, {2, 0}, {3, 9}, {4, 9}, {0, 9}};
        for (int[] s : seen) calls.add(new Call("see", s));
        calls.add(new Call("keep", 0));
        calls.add(new Call("keep", 1));
        int[] lanes = {0, 1, 2, 0};
        for (int k = 0; k < 4; k++) calls.add(new Call("sheet", k, lanes[k], 40));
        calls.add(new Call("lay", 0, 0, 4));
        calls.add(new Call("lay", 0, 1, 1));
        calls.add(new Call("lay", 1, 39, 3));
        calls.add(new Call("lay", 2, 38, 9));
        feed(calls, "moon1;" + " ".repeat(154));
    }

    // ---- what calls tell of a state: four ways, each of which takes an object of its own

    static final int WAYS = 4;

    static String seenOf(Run r, int way) {
        StringBuilder s = new StringBuilder();
        if (way == 0) {
            shed(r, s);
            sights(r, s);
        } else if (way == 1) {
            tape(r, s);
        } else if (way == 2) {
            images(r, s);
        } else {
            sheets(r, s);
        }
        return s.toString();
    }

    private static void ask(Run r, StringBuilder s, String name, int... args) {
        s.append(name);
        for (int a : args) s.append(' ').append(a);
        s.append(" = ").append(r.call(name, args)).append('\n');
    }

    private static void shed(Run r, StringBuilder s) {
        for (int i = 0; i < 7; i++) ask(r, s, "rule", i);
        for (int b = 0; b < 5; b++) for (int i = 0; i < 6; i++) ask(r, s, "bolt", b, i);
        for (int m = 0; m < 4; m++) for (int i = 0; i < 4; i++) ask(r, s, "moth", m, i);
        for (int k = 0; k < 3; k++) for (int i = 10; i < 15; i++) ask(r, s, "bale", k, i);
        for (int i = 0; i < 5; i++) ask(r, s, "count", i);
        ask(r, s, "fault");
        ask(r, s, "torn");
    }

    /** What was seen, told by what fits to all of it, to all but the last, and so on. */
    private static void sights(Run r, StringBuilder s) {
        for (int n = (int) r.call("count", 1); n >= 0; n--) {
            ask(r, s, "forget", n);
            ask(r, s, "bought");
            ask(r, s, "pricked", 0);
            ask(r, s, "pricked", 1);
            ask(r, s, "tastes", 1);
        }
    }

    private static void tape(Run r, StringBuilder s) {
        ask(r, s, "text");
        shed(r, s);
    }

    private static void images(Run r, StringBuilder s) {
        for (int k = 0; k < 2; k++) {
            ask(r, s, "back", k);
            shed(r, s);
            ask(r, s, "bought");
            ask(r, s, "pricked", 0);
        }
    }

    private static void sheets(Run r, StringBuilder s) {
        for (int k = 0; k < 4; k++) {
            int own = 0;
            for (int lane = 0; lane < 3; lane++) {
                ask(r, s, "read", k, lane, 0, 1);
                ask(r, s, "torn");
                if (r.call("torn") != 3) own = lane;
            }
            for (int f = 0; f < 40; f += 5) ask(r, s, "read", k, own, f, 1);
            for (int f = 1; f < 40; f += 19) ask(r, s, "read", k, own, f, 1);
            for (int i : new int[] {0, 5, 6, 39, 40}) ask(r, s, "lay", k, i, 0);
        }
        for (int b = 0; b < 5; b++) ask(r, s, "bolt", b, 4);
    }
}
