/** Promises 29 to 37: what was counted, nights by a seed, images. */
final class EdgesOfSights extends Edges {
    private static final String FIVE_ALIKE = "bolt 0 9 0;bolt 0 9 0;bolt 0 9 0;bolt 0 9 0;bolt 0 9 0;";

    @Override
    void tests() {
        see();
        seen();
        forget();
        tastes();
        bought();
        pricked();
        prickedByWool();
        lain();
        lainOfFive();
        drift();
        seeds();
        keep();
        imageIs();
        back();
    }

    private static Run of(String text) {
        Run r = new Run();
        holds("'" + text + "' is taken", r.tell(text) >= 0);
        return r;
    }

    private void see() {
        says(29, "SEEN: a BOLT has h HOLES (0 to 9): how many are.");
        Run r = of(FIVE_ALIKE);
        for (int i = 1; i <= 6; i++) due(r, i, "see", i % 5, i == 6 ? 9 : 0);
        due(r, 6, "count", 1);
        // more than WOOL can be SEEN, too; it is not so then
        Run thin = of("bolt 0 0 0;bolt 0 1 0;");
        due(thin, 1, "see", 1, 9);
        due(thin, 0, "pricked", 0);
        says(29, "BAD; FULL.");
        due(r, FULL, "see", 0, 0);
        due(r, 6, "count", 1);
        due(r, 6, "forget", 5);
        due(r, 6, "see", 0, 0);
        due(r, FULL, "see", 0, 0);
        leaves(FULL, State.FULL, "see", 0, 0);
        leaves(FULL, State.FULL, "see", 4, 9);
        bounds("see", BOLT, within(0, 9));
    }

    private void seen() {
        says(29, "SEEN (6): a BOLT has so many HOLES behind the next NIGHT.");
        Run r = of("bolt 0 9 0;plain 0 4 0;");
        // 4 behind the next NIGHT; not those of now, not the 9 behind two
        for (int h = 0; h <= 9; h++) {
            due(r, 1, "see", 0, h);
            due(r, h == 4 ? 0 : h == 5 ? 1 : NONE, "pricked", 1);
            due(r, 1, "forget", 0);
        }
    }

    private void forget() {
        says(30, "SEEN are the first n alone: how many there were.");
        Run r = of("bolt 0 9 0;plain 0 4 0;");
        due(r, 0, "forget", 0);
        due(r, 1, "see", 0, 4);
        due(r, 2, "see", 0, 5);
        due(r, 0, "tastes", 0);
        due(r, 2, "forget", 2);
        due(r, 0, "tastes", 0);
        due(r, 2, "forget", 1);
        due(r, 3, "tastes", 0);
        due(r, 1, "forget", 1);
        due(r, 1, "forget", 0);
        due(r, 63, "tastes", 0);
        due(State.FULL.made(), 6, "forget", 6);
        due(State.FULL.made(), 6, "forget", 0);
        says(30, "BAD (n above that, too).");
        leaves(BAD, State.EMPTY, "forget", 1);
        leaves(BAD, State.SOME, "forget", 4);
        leaves(BAD, State.FULL, "forget", 7);
        for (State s : State.values()) for (int n : new int[] {-1, 256, MIN, MAX}) leaves(BAD, s, "forget", n);
    }

    private void tastes() {
        says(31, "TASTES of a MOTH (bits) by which, all else as it is, all would be as SEEN.");
        leaves(63, State.SOME, "tastes", 0);
        leaves(48, State.SOME, "tastes", 1);
        for (int m = 0; m < 4; m++) leaves(63, State.FULL, "tastes", m);
        // the DYES at both ends: TASTES 0 and 1, 4 and 5
        Run ends = of("bolt 0 9 0;bolt 5 9 1;plain 2 3 0;plain 2 3 1;");
        due(ends, 1, "see", 0, 3);
        due(ends, 3, "tastes", 0);
        due(ends, 0, "tastes", 1);
        due(ends, 1, "forget", 0);
        due(ends, 1, "see", 1, 3);
        due(ends, 48, "tastes", 1);
        due(ends, 0, "tastes", 0);
        due(ends, 1, "forget", 0);
        due(ends, 1, "see", 1, 0);
        due(ends, 15, "tastes", 1);
        due(ends, 63, "tastes", 0);
        // none fits: no TASTE makes 9 of an APPETITE of 3; nothing SEEN: each fits
        due(ends, 2, "see", 0, 9);
        due(ends, 0, "tastes", 0);
        due(ends, 2, "forget", 0);
        due(ends, 63, "tastes", 0);
        says(31, "BAD.");
        bounds("tastes", MOTH);
    }

    private void bought() {
        says(32, "MOTHS (bits) of which, had just that one eaten nothing, all would be as SEEN.");
        leaves(0, State.EMPTY, "bought");
        leaves(1, State.SOME, "bought");
        leaves(15, State.FULL, "bought");
        // one less of four, which one by HUNGER: 10 less 1, 2, 3, 4
        Run r = of("bolt 0 9 0;bolt 0 9 0;plain 0 1 0;plain 0 2 0;plain 0 3 0;plain 0 4 0;");
        due(r, 15, "bought");
        due(r, 1, "see", 0, 9);
        due(r, 1, "bought");
        due(r, 2, "see", 1, 0);
        due(r, 1, "bought");
        for (int eaten = 6; eaten <= 8; eaten++) {
            r.call("forget", 0);
            due(r, 1, "see", 0, eaten);
            due(r, 1 << (10 - eaten - 1), "bought");
        }
        r.call("forget", 0);
        due(r, 1, "see", 1, 1);
        due(r, 0, "bought");
        due(of("bolt 0 9 0;"), 0, "bought");
    }

    private void pricked() {
        says(33, "Sets of BOLTS such that, were just these pricked once behind the NIGHT (if WOOL lets them), all would be as SEEN: "
            + "how many (what 0), the least by bits (1). BAD; NONE (1): there is none.");
        int[][] rows = {{1, 0}, {4, 0}, {16, 0}};
        for (State s : State.values()) for (int what = 0; what < 2; what++) leaves(rows[s.ordinal()][what], s, "pricked", what);
        // five BOLTS, 32 sets; each that is SEEN with one HOLE halves them
        Run r = of(FIVE_ALIKE);
        due(r, 32, "pricked", 0);
        due(r, 0, "pricked", 1);
        for (int i = 0; i < 5; i++) {
            due(r, i + 1, "see", 4 - i, 1);
            due(r, 16 >> i, "pricked", 0);
            due(r, 32 - (16 >> i), "pricked", 1);
        }
        due(r, 6, "see", 0, 0);
        due(r, 0, "pricked", 0);
        due(r, NONE, "pricked", 1);
        // once: two HOLES are none that pricking makes
        due(r, 6, "forget", 0);
        due(r, 1, "see", 0, 2);
        due(r, 0, "pricked", 0);
        due(r, NONE, "pricked", 1);
        bounds("pricked", ONE_OR_OTHER);
    }

    private void prickedByWool() {
        says(33, "(if WOOL lets them)");
        Run r = of("bolt 0 0 0;bolt 0 3 0;bolt 0 9 1;plain 0 3 0;");
        // BOLT 0 has no WOOL, BOLT 1 is EATEN UP behind the NIGHT: both stay, in a set or not
        due(r, 1, "see", 0, 0);
        due(r, 2, "see", 1, 3);
        due(r, 8, "pricked", 0);
        due(r, 0, "pricked", 1);
        due(r, 3, "see", 2, 1);
        due(r, 4, "pricked", 0);
        due(r, 4, "pricked", 1);
        due(r, 3, "forget", 0);
        due(r, 1, "see", 0, 1);
        due(r, 0, "pricked", 0);
        due(r, 1, "forget", 0);
        due(r, 1, "see", 1, 4);
        due(r, NONE, "pricked", 1);
        // behind the NIGHT, not ahead of it: a HOLE that was there before would leave one more to BOLT 1
        Run behind = of("bolt 0 3 0;bolt 0 9 0;plain 0 3 0;");
        due(behind, 1, "see", 1, 0);
        due(behind, 2, "pricked", 0);
        due(behind, 1, "forget", 0);
        due(behind, 1, "see", 1, 1);
        due(behind, 2, "pricked", 0);
        due(behind, 2, "pricked", 1);
    }

    private void lain() {
        says(34, "BOLTS of a BALE (bits) each of which, by some order of its BOLTS, would be on top, and all would be as SEEN.");
        int[][] rows = {{0, 0, 0}, {3, 4, 0}, {7, 8, 16}};
        for (State s : State.values()) for (int k = 0; k < 3; k++) leaves(rows[s.ordinal()][k], s, "lain", k);
        Run r = of("bolt 0 2 0;bolt 0 3 0;bolt 0 1 1;plain 0 4 0;");
        due(r, 3, "lain", 0);
        due(r, 1, "see", 0, 2);
        due(r, 1, "lain", 0);
        due(r, 2, "see", 1, 2);
        due(r, 1, "lain", 0);
        due(r, 4, "lain", 1);
        due(r, 2, "forget", 0);
        due(r, 1, "see", 0, 1);
        due(r, 2, "lain", 0);
        due(r, 0, "lain", 1);
        // what is SEEN of other BALES counts, too
        due(r, 2, "see", 2, 1);
        due(r, 0, "lain", 0);
        due(r, 0, "lain", 2);
        says(34, "BAD.");
        bounds("lain", BALE);
    }

    private void lainOfFive() {
        says(34, "by some order of its BOLTS");
        // all five in one BALE, HOLES by an APPETITE of 9: one alone has 9
        for (int b = 0; b < 5; b++) {
            Run r = of(FIVE_ALIKE + "plain 0 9 0;");
            due(r, 31, "lain", 0);
            due(r, 1, "see", b, 9);
            due(r, 1 << b, "lain", 0);
            due(r, 2, "see", (b + 1) % 5, 1);
            due(r, 0, "lain", 0);
            piles(r, 101234, 1, 1);
        }
        // one that is not liked may lie on top or not
        Run r = of("bolt 0 9 0;bolt 5 9 0;bolt 0 9 0;plain 0 9 0;");
        due(r, 1, "see", 2, 9);
        due(r, 6, "lain", 0);
        // with CAMPHOR on top nothing is eaten, and it is on top then alone
        Run still = of("bolt 0 9 0;bolt 0 9 0;bolt 0 9 0;camphor 1;plain 0 9 0;");
        due(still, 1, "see", 0, 0);
        due(still, 2, "see", 2, 0);
        due(still, 2, "lain", 0);
    }

    private void drift() {
        says(35, "By itself (as it would be; nothing is changed), n NIGHTS (1 to 20) by a seed:");
        leaves(21, State.SOME, "drift", 0, 1, 0);
        leaves(9, State.SOME, "drift", 0, 1, 1);
        leaves(9, State.SOME, "drift", 0, 20, 1);
        leaves(243, State.FULL, "drift", 0, 1, 0);
        leaves(36, State.FULL, "drift", 0, 1, 1);
        leaves(36, State.FULL, "drift", 0, 20, 1);
        // BOLT 0 is alone, the draws of seed 0 put it on BALE 0, then 0, 1, 1
        Run one = of("bolt 0 9 2;plain 0 1 0;");
        due(one, 1, "drift", 0, 1, 0);
        due(one, 3, "drift", 0, 2, 0);
        due(one, 3, "drift", 0, 4, 0);
        due(one, 9, "drift", 0, 20, 0);
        due(one, 2, "bolt", 0, 4);
        says(35, "BAD; STATE: there are no BOLTS.");
        for (int n : new int[] {1, 20}) for (int what = 0; what < 2; what++) leaves(STATE, State.EMPTY, "drift", 7, n, what);
        due(of("plain 0 9 0;"), STATE, "drift", 7, 1, 0);
        for (int seed : new int[] {MIN, -1, 0, MAX}) bounds("drift", just(seed), within(1, 20), ONE_OR_OTHER);
    }

    /** One NIGHT by one draw: which BOLT lies on top of which BALE is told by a hungry moth of each BALE. */
    private static void drawn(int seed, int bolts, int bolt, int bale) {
        String[] text = new String[bolts];
        for (int b = 0; b < bolts; b++) text[b] = "bolt " + b + " 9 0;";
        for (int k = 0; k < 3; k++) {
            // the moth eats of the drawn BOLT alone, and only in that BALE
            Run r = of(String.join("", text) + "picky " + bolt + " 8 " + k + ";");
            due(r, bale == k ? 7 : 0, "drift", seed, 1, 1);
        }
    }

    private void seeds() {
        says(35, "ahead of each the seed becomes seed times 1103515245 and 12345; by bits 16 to 30 of it modulo BOLTS "
            + "that one is folded on top of the BALE of these bits modulo 3: DUTY of all in the end (what 0), all HOLES (1).");
        // the bits by seed: 0: 0; 1: 16838; -1, MAX: 15929; MIN: 0; 2: 908; 3: 17747; 4: 1817; 5: 18655; 7: 19564
        int[][] rows = {{0, 0}, {1, 16838}, {-1, 15929}, {MAX, 15929}, {MIN, 0}, {2, 908}, {3, 17747}, {4, 1817}, {5, 18655}, {7, 19564}};
        for (int[] row : rows) for (int bolts = 1; bolts <= 5; bolts++) drawn(row[0], bolts, row[1] % bolts, row[1] % 3);
        // on top: it is the first that is eaten; seed 2 puts BOLT 0 of two (908) on BALE 2
        Run top = of("bolt 0 2 0;bolt 0 9 2;plain 0 5 2;");
        due(top, 3, "drift", 2, 1, 0);
        due(top, 5, "drift", 2, 1, 1);
        // two HOLES that meet: DUTY is less than HOLES; seed 7 puts BOLT 0 of two (19564) on BALE 1
        Run meet = of("bolt 0 2 0;bolt 0 9 1;plain 0 5 1;rate 3;");
        due(meet, 9, "drift", 7, 1, 0);
        due(meet, 5, "drift", 7, 1, 1);
        // the seed goes on by itself: 0, 21468, 9988, 22117 are BALES 0, 0, 1, 1 for the only BOLT
        Run on = of("bolt 0 9 2;plain 0 1 1;");
        int[] holes = {0, 0, 3, 7};
        for (int n = 1; n <= 4; n++) due(on, holes[n - 1], "drift", 0, n, 1);
        due(on, 0, "count", 0);
    }

    private void keep() {
        says(36, "whether there was one (1, 0).");
        Run r = new Run();
        due(r, 0, "keep", 0);
        due(r, 1, "keep", 0);
        due(r, 1, "count", 2);
        due(r, 0, "keep", 1);
        due(r, 1, "keep", 1);
        due(r, 2, "count", 2);
        due(r, 0, "text");
        due(r, 0, "keep", 0);
        says(36, "BAD.");
        bounds("keep", ONE_OR_OTHER);
    }

    private void imageIs() {
        says(36, "IMAGE k (0, 1) is BOLTS, MOTHS (all of them), how they lie, MOON, RATE, NIGHT, what was SEEN:");
        for (State s : State.values()) {
            String was = withoutImages(State.seenOf(s.made(), 0));
            for (int k = 0; k < 2; k++) {
                Run r = s.made();
                r.call("keep", k);
                stir(r, s);
                due(r, s == State.EMPTY ? 0 : s == State.SOME ? 1 : 999, "back", k);
                String is = withoutImages(State.seenOf(r, 0));
                holds(s + ", image " + k + ": " + firstOther(was, is), is.equals(was));
            }
        }
    }

    /** How many images there are is no part of one. */
    private static String withoutImages(String seen) { return seen.replaceFirst("count 2 = \\d\n", ""); }

    /** Changes each thing that an image is. */
    private static void stir(Run r, State s) {
        r.call("set", 0, 1);
        r.call("set", 1, 7);
        if (s == State.EMPTY) {
            r.call("go", 3);
            return;
        }
        r.call("forget", 1);
        r.call("see", 1, 9);
        for (int b = 0; b < s.bolts; b++) {
            r.call("camphor", b, 1 - (int) r.call("bolt", b, 3));
            if (r.call("prick", b) < 0) r.call("patch", b, 1);
            r.call("fold", b, 2);
        }
        for (int m = 0; m < s.moths; m++) {
            for (int i : new int[] {m, 3 - m}) r.call("alter", m, i, r.call("moth", m, i) == 1 ? 2 : 1);
        }
        if (s == State.SOME) r.call("go", 2);
    }

    private void back() {
        says(37, "All is as IMAGE k: NIGHT.");
        Run r = of("bolt 0 9 0;plain 0 1 0;");
        r.call("keep", 0);
        due(r, 1, "go", 1);
        r.call("keep", 1);
        due(r, 0, "back", 0);
        due(r, 0, "duty", 0);
        due(r, 1, "back", 1);
        due(r, 1, "duty", 0);
        due(r, 1, "back", 1);
        due(r, 6, "go", 2);
        due(r, 1, "back", 1);
        due(r, 1, "duty", 0);
        due(r, 2, "count", 2);
        // THE TAPE, its FAULT, SHEETS and torn() are no part of it
        Run other = State.SOME.made();
        other.call("back", 0);
        due(other, 7, "count", 3);
        due(other, 3, "fault");
        due(other, 3, "torn");
        due(other, 6, "count", 4);
        due(other, 2, "count", 1);
        due(other, 0, "rule", 2);
        due(State.FULL.made(), 999, "back", 1);
        // behind IMAGE 0 of an empty object BOLTS are none again
        Run empty = new Run();
        empty.call("keep", 1);
        due(empty, 0, "back", 1);
        due(empty, BAD, "bolt", 0, 0);
        says(37, "BAD; STATE: there is none.");
        leaves(STATE, State.EMPTY, "back", 0);
        leaves(STATE, State.EMPTY, "back", 1);
        leaves(STATE, State.SOME, "back", 1);
        bounds("back", ONE_OR_OTHER);
    }
}
