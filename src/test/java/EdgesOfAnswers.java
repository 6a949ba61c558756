/** Promises 6 to 17: what is told of all, and what is changed. */
final class EdgesOfAnswers extends Edges {
    private static final String FIVE_ALIKE = "bolt 0 9 2;bolt 0 9 2;bolt 0 9 2;bolt 0 9 2;bolt 0 9 2;";

    @Override
    void tests() {
        answers();
        rule();
        bolt();
        moth();
        appetite();
        likes();
        bale();
        dutyOfBales();
        fold();
        under();
        swap();
        camphor();
        patch();
        prick();
        alter();
        set();
    }

    private static Run of(String text) {
        Run r = new Run();
        holds("'" + text + "' is taken", r.tell(text) >= 0);
        return r;
    }

    private void answers() {
        says(6, "Answers: BAD -1 (a number is not as told, there is no such BOLT, MOTH, BALE, IMAGE, SHEET), STATE -2 (as told), FULL -3, "
            + "NONE -4 (there is none), the first that fits; what is refused changes nothing (but THE TAPE, as told).");
        holds("BAD is -1", MothCustoms.BAD == -1);
        holds("STATE is -2", MothCustoms.STATE == -2);
        holds("FULL is -3", MothCustoms.FULL == -3);
        holds("NONE is -4", MothCustoms.NONE == -4);
        // where BAD and another one fit, BAD is the first
        leaves(BAD, State.FULL, "feed", 128);
        leaves(BAD, State.SOME, "patch", 0, 10);
        leaves(BAD, State.SOME, "patch", 3, 9);
        leaves(BAD, State.FULL, "prick", 5);
        leaves(BAD, State.FULL, "go", 21);
        leaves(BAD, State.FULL, "see", 5, 0);
        leaves(BAD, State.FULL, "see", 0, 10);
        leaves(BAD, State.EMPTY, "back", 2);
        leaves(BAD, State.EMPTY, "guard", 2);
        leaves(BAD, State.EMPTY, "raise", 2);
        leaves(BAD, State.EMPTY, "bale", 3, 10);
        leaves(BAD, State.EMPTY, "when", 0);
        leaves(BAD, State.EMPTY, "drift", 0, 0, 0);
        leaves(BAD, State.EMPTY, "drift", 0, 1, 2);
        leaves(BAD, State.EMPTY, "sheet", 4, 0, -1);
        leaves(BAD, State.EMPTY, "sheet", 0, 3, -1);
        leaves(BAD, State.EMPTY, "lay", 4, -1, 0);
        leaves(BAD, State.EMPTY, "read", 0, 3, 0, 1);
        leaves(BAD, State.EMPTY, "read", 0, 0, 0, 21);
    }

    private void rule() {
        says(6, "0 BOLTS, 1 MOTHS, 2 MOON, 3 RATE, 4 NIGHT, 5 BOLTS with CAMPHOR (bits), 6 EATEN UP (bits).");
        int[][] rules = {{0, 0, 0, 1, 0, 0, 0}, {3, 2, 2, 3, 1, 2, 1}, {5, 4, 2, 9, 999, 4, 27}};
        for (State s : State.values()) for (int i = 0; i < 7; i++) leaves(rules[s.ordinal()][i], s, "rule", i);
        says(6, "EATEN UP is a BOLT of which HOLES are WOOL, if WOOL is above 0.");
        Run r = of("bolt 0 0 0;bolt 0 1 0;bolt 0 2 0;bolt 0 9 0;");
        due(r, 0, "rule", 6);
        due(r, 1, "prick", 1);
        due(r, 1, "prick", 2);
        due(r, 2, "rule", 6);
        for (int i = 1; i <= 8; i++) due(r, i, "prick", 3);
        due(r, 2, "rule", 6);
        due(r, 9, "prick", 3);
        due(r, 2, "prick", 2);
        due(r, 14, "rule", 6);
        due(r, 8, "patch", 3, 1);
        due(r, 6, "rule", 6);
        says(6, "BAD.");
        bounds("rule", within(0, 6));
    }

    private void bolt() {
        says(7, "Of a BOLT: 0 DYE, 1 WOOL, 2 HOLES, 3 CAMPHOR (1, 0), 4 BALE, 5 LAYER.");
        int[][] some = {{1, 3, 3, 0, 0, 0}, {2, 9, 2, 1, 0, 1}, {5, 4, 1, 0, 1, 0}};
        for (int b = 0; b < 3; b++) for (int i = 0; i < 6; i++) leaves(some[b][i], State.SOME, "bolt", b, i);
        int[][] full = {{0, 9, 9, 0, 0, 0}, {1, 9, 9, 0, 0, 1}, {2, 9, 0, 1, 0, 2}, {3, 9, 9, 0, 1, 0}, {4, 9, 9, 0, 2, 0}};
        for (int b = 0; b < 5; b++) for (int i = 0; i < 6; i++) leaves(full[b][i], State.FULL, "bolt", b, i);
        says(7, "BAD.");
        bounds("bolt", BOLT, within(0, 5));
    }

    private void moth() {
        says(8, "Of a MOTH: 0 KIND, 1 TASTE, 2 HUNGER, 3 AT, 4 APPETITE, 5 BOLTS that it LIKES (bits).");
        int[][] some = {{0, 1, 2, 0, 4, 3}, {3, 5, 6, 1, 4, 4}};
        for (int m = 0; m < 2; m++) for (int i = 0; i < 6; i++) leaves(some[m][i], State.SOME, "moth", m, i);
        int[][] full = {{0, 0, 9, 0, 11, 3}, {1, 3, 9, 1, 10, 8}, {2, 0, 9, 2, 22, 31}, {3, 2, 9, 0, 5, 14}};
        for (int m = 0; m < 4; m++) for (int i = 0; i < 6; i++) leaves(full[m][i], State.FULL, "moth", m, i);
        says(8, "BAD.");
        bounds("moth", MOTH, within(0, 5));
    }

    private void appetite() {
        says(8, "APPETITE: plain: HUNGER and MOON; picky: 1 less (0 at least); glutton: twice that of a plain one; "
            + "fat: half of that of a plain one (down).");
        // HUNGER, MOON; then plain, picky, glutton, fat
        int[][] rows = {{0, 0, 0, 0, 0, 0}, {0, 1, 1, 0, 2, 0}, {1, 0, 1, 0, 2, 0}, {0, 2, 2, 1, 4, 1}, {0, 3, 3, 2, 6, 1},
            {1, 3, 4, 3, 8, 2}, {9, 0, 9, 8, 18, 4}, {9, 1, 10, 9, 20, 5}, {9, 2, 11, 10, 22, 5}, {9, 3, 12, 11, 24, 6}};
        Run r = of("plain 0 0 0;picky 0 0 0;glutton 0 0 0;fat 0 0 0;");
        for (int[] row : rows) {
            r.call("set", 0, row[1]);
            for (int m = 0; m < 4; m++) {
                r.call("alter", m, 2, row[0]);
                due(r, row[2 + m], "moth", m, 4);
            }
        }
        // what an APPETITE of 0 and of 24 makes
        Run most = of("bolt 0 9 0;bolt 0 9 0;bolt 0 9 0;glutton 0 9 0;picky 0 0 0;moon 3;");
        due(most, 24, "eats", 0);
        due(most, 2, "eats", 1);
        most.call("set", 0, 1);
        due(most, 0, "eats", 1);
        due(most, 20, "eats", 0);
    }

    private void likes() {
        says(8, "A MOTH LIKES a BOLT: plain, fat: its DYE is no more than 1 from TASTE; picky: DYE is TASTE; glutton: any.");
        Run low = of("bolt 0 1 0;bolt 1 1 0;bolt 2 1 1;bolt 3 1 1;bolt 4 1 2;plain 0 1 0;picky 0 1 0;glutton 0 1 0;fat 0 1 0;");
        Run high = of("bolt 1 1 0;bolt 2 1 0;bolt 3 1 1;bolt 4 1 1;bolt 5 1 2;plain 0 1 0;picky 0 1 0;glutton 0 1 0;fat 0 1 0;");
        // bits of the DYES 0 to 5 that are no more than 1 from the TASTE
        int[] near = {3, 7, 14, 28, 56, 48};
        for (int taste = 0; taste < 6; taste++) {
            for (int m = 0; m < 4; m++) {
                int dyes = m == 1 ? 1 << taste : m == 2 ? 63 : near[taste];
                low.call("alter", m, 1, taste);
                high.call("alter", m, 1, taste);
                due(low, dyes & 31, "moth", m, 5);
                due(high, dyes >> 1, "moth", m, 5);
            }
        }
        due(of("plain 0 1 0;"), 0, "moth", 0, 5);
    }

    private void bale() {
        says(9, "Of a BALE: 0 how many BOLTS, 1 DUTY; 10 and i: the BOLT in LAYER i (NONE: not so many; i 0 to 4).");
        int[] what = {0, 1, 10, 11, 12, 13, 14};
        int[][] some = {{2, 9, 0, 1, NONE, NONE, NONE}, {1, 3, 2, NONE, NONE, NONE, NONE}, {0, 0, NONE, NONE, NONE, NONE, NONE}};
        int[][] full = {{3, 81, 0, 1, 2, NONE, NONE}, {1, 81, 3, NONE, NONE, NONE, NONE}, {1, 81, 4, NONE, NONE, NONE, NONE}};
        for (int k = 0; k < 3; k++) {
            for (int i = 0; i < 7; i++) {
                leaves(i < 2 ? 0 : NONE, State.EMPTY, "bale", k, what[i]);
                leaves(some[k][i], State.SOME, "bale", k, what[i]);
                leaves(full[k][i], State.FULL, "bale", k, what[i]);
            }
        }
        Run five = of(FIVE_ALIKE);
        due(five, 5, "bale", 2, 0);
        for (int i = 0; i < 5; i++) due(five, i, "bale", 2, 10 + i);
        for (int i = 0; i < 5; i++) due(five, NONE, "bale", 0, 10 + i);
        says(9, "BAD.");
        bounds("bale", BALE, just(0));
        bounds("bale", BALE, just(14));
        bounds("bale", just(0), within(10, 14));
        for (State s : State.values()) for (int w : new int[] {-1, 2, 3, 9, 15, 16}) leaves(BAD, s, "bale", 0, w);
    }

    private void dutyOfBales() {
        says(9, "DUTY of a BALE: HOLES of its BOLTS, summed, less, for each two that lie one on another, the lesser HOLES of the two; "
            + "times RATE. DUTY of all: of the three BALES.");
        Run r = of(FIVE_ALIKE);
        due(r, 0, "bale", 2, 1);
        for (int i = 0; i < 9; i++) for (int b = 0; b < 5; b += 2) r.call("prick", b);
        due(r, 27, "bale", 2, 1);
        due(r, 1, "prick", 1);
        due(r, 26, "bale", 2, 1);
        for (int i = 1; i < 9; i++) for (int b = 1; b < 5; b += 2) r.call("prick", b);
        due(r, 8, "patch", 0, 1);
        due(r, 10, "bale", 2, 1);
        due(r, 9, "prick", 3);
        due(r, 9, "bale", 2, 1);
        due(r, 1, "set", 1, 9);
        due(r, 81, "bale", 2, 1);
        due(r, 1, "fold", 0, 0);
        due(r, 1, "fold", 4, 1);
        due(r, 72, "bale", 0, 1);
        due(r, 81, "bale", 1, 1);
        due(r, 81, "bale", 2, 1);
        due(r, 234, "duty", 0);
        // of 4, 1, 3 HOLES only neighbours meet: 8 less 1 less 1
        Run apart = of("bolt 0 4 1;bolt 0 1 1;bolt 0 3 1;glutton 0 4 1;");
        due(apart, 6, "go", 1);
        due(apart, 6, "bale", 1, 1);
    }

    private void fold() {
        says(10, "A BOLT goes to a BALE (its own, too), on top of it: how many lie there then.");
        Run r = of("bolt 0 1 0;bolt 0 1 0;bolt 0 1 0;bolt 0 1 1;");
        due(r, 3, "fold", 0, 0);
        piles(r, 1012, 13, 1);
        due(r, 3, "fold", 2, 0);
        piles(r, 1201, 13, 1);
        due(r, 3, "fold", 0, 0);
        piles(r, 1021, 13, 1);
        due(r, 2, "fold", 2, 1);
        piles(r, 101, 123, 1);
        due(r, 1, "fold", 3, 2);
        piles(r, 101, 12, 13);
        due(r, 1, "fold", 3, 2);
        due(r, 1, "fold", 2, 1);
        piles(r, 101, 12, 13);
        Run five = of(FIVE_ALIKE);
        for (int b = 0; b < 5; b++) due(five, b + 1, "fold", b, 0);
        piles(five, 143210, 1, 1);
        due(five, 5, "fold", 0, 0);
        piles(five, 104321, 1, 1);
        says(10, "BAD.");
        bounds("fold", BOLT, BALE);
    }

    private void under() {
        says(11, "Likewise, to its bottom.");
        Run r = of("bolt 0 1 0;bolt 0 1 0;bolt 0 1 0;bolt 0 1 1;");
        due(r, 3, "under", 2, 0);
        piles(r, 1012, 13, 1);
        due(r, 3, "under", 0, 0);
        piles(r, 1120, 13, 1);
        due(r, 3, "under", 2, 0);
        piles(r, 1102, 13, 1);
        due(r, 2, "under", 0, 1);
        piles(r, 112, 130, 1);
        due(r, 1, "under", 0, 2);
        due(r, 1, "under", 0, 2);
        piles(r, 112, 13, 10);
        Run five = of(FIVE_ALIKE);
        for (int b = 0; b < 5; b++) due(five, b + 1, "under", b, 1);
        piles(five, 1, 101234, 1);
        due(five, 5, "under", 0, 1);
        piles(five, 1, 112340, 1);
        says(11, "BAD.");
        bounds("under", BOLT, BALE);
    }

    private void swap() {
        says(12, "Two BOLTS change places. BAD (also alike): else the BALE of the first one then.");
        Run r = of("bolt 0 1 0;bolt 0 1 0;bolt 0 1 0;bolt 0 1 1;bolt 0 1 2;");
        due(r, 0, "swap", 0, 2);
        piles(r, 1210, 13, 14);
        due(r, 0, "swap", 1, 2);
        piles(r, 1120, 13, 14);
        due(r, 1, "swap", 0, 3);
        piles(r, 1123, 10, 14);
        due(r, 2, "swap", 1, 4);
        piles(r, 1423, 10, 11);
        due(r, 0, "swap", 1, 4);
        piles(r, 1123, 10, 14);
        for (int b = 0; b < 5; b++) due(r, BAD, "swap", b, b);
        piles(r, 1123, 10, 14);
        for (int b = 0; b < 5; b++) leaves(BAD, State.FULL, "swap", b, b);
        leaves(BAD, State.EMPTY, "swap", 0, 1);
        for (State s : State.values()) {
            for (int v : outside(0, s.bolts - 1)) {
                leaves(BAD, s, "swap", v, 0);
                leaves(BAD, s, "swap", 0, v);
                leaves(BAD, s, "swap", v, v);
            }
        }
    }

    private void camphor() {
        says(13, "A BOLT has CAMPHOR, or not: whether it had. BAD.");
        Run r = of(FIVE_ALIKE + "camphor 4;");
        due(r, 16, "rule", 5);
        due(r, 0, "camphor", 0, 1);
        due(r, 17, "rule", 5);
        due(r, 1, "camphor", 0, 1);
        due(r, 1, "camphor", 4, 0);
        due(r, 1, "rule", 5);
        due(r, 0, "camphor", 4, 0);
        due(r, 1, "camphor", 0, 0);
        due(r, 0, "rule", 5);
        for (int b = 0; b < 5; b++) due(r, 0, "camphor", b, 1);
        due(r, 31, "rule", 5);
        due(r, 1, "bolt", 4, 3);
        bounds("camphor", BOLT, just(0));
        bounds("camphor", BOLT, just(1));
    }

    private void patch() {
        says(14, "n HOLES (0 to 9) of a BOLT are patched: how many it has then.");
        Run r = of("bolt 0 9 0;bolt 0 0 0;");
        due(r, 0, "patch", 0, 0);
        for (int i = 1; i <= 9; i++) due(r, i, "prick", 0);
        due(r, 9, "patch", 0, 0);
        due(r, 8, "patch", 0, 1);
        due(r, 9, "prick", 0);
        due(r, 0, "patch", 0, 9);
        due(r, 0, "bolt", 0, 2);
        due(r, 0, "patch", 1, 0);
        says(14, "BAD; STATE: it has not so many.");
        due(r, STATE, "patch", 0, 1);
        due(r, STATE, "patch", 1, 1);
        due(r, STATE, "patch", 1, 9);
        leaves(STATE, State.SOME, "patch", 0, 4);
        leaves(STATE, State.SOME, "patch", 0, 9);
        leaves(STATE, State.SOME, "patch", 1, 3);
        leaves(STATE, State.SOME, "patch", 2, 2);
        leaves(STATE, State.FULL, "patch", 2, 1);
        leaves(3, State.SOME, "patch", 0, 0);
        due(State.SOME.made(), 0, "patch", 0, 3);
        due(State.SOME.made(), 0, "patch", 2, 1);
        due(State.FULL.made(), 0, "patch", 4, 9);
        bounds("patch", BOLT, within(0, 9));
    }

    private void prick() {
        says(15, "A HOLE more, pricked: how many it has then.");
        Run r = of("bolt 0 9 0;bolt 0 1 0;bolt 0 0 0;camphor 0;");
        for (int i = 1; i <= 9; i++) due(r, i, "prick", 0);
        due(r, 1, "prick", 1);
        due(r, 10, "count", 0);
        says(15, "BAD; FULL: it has as many as WOOL.");
        due(r, FULL, "prick", 0);
        due(r, FULL, "prick", 1);
        due(r, FULL, "prick", 2);
        due(r, 10, "count", 0);
        leaves(FULL, State.SOME, "prick", 0);
        for (int b : new int[] {0, 1, 3, 4}) leaves(FULL, State.FULL, "prick", b);
        due(State.FULL.made(), 1, "prick", 2);
        bounds("prick", BOLT);
    }

    private void alter() {
        says(16, "KIND, TASTE, HUNGER, AT (what 0 to 3) of a MOTH becomes v: what it was.");
        Run r = State.FULL.made();
        int[] was = {3, 2, 9, 0}, most = {3, 5, 9, 2};
        for (int i = 0; i < 4; i++) {
            due(r, was[i], "alter", 3, i, most[i]);
            due(r, most[i], "moth", 3, i);
            due(r, most[i], "alter", 3, i, 0);
            due(r, 0, "moth", 3, i);
            due(r, 0, "alter", 3, i, 0);
        }
        int[] others = {1, 3, 9, 1};
        for (int i = 0; i < 4; i++) due(r, others[i], "moth", 1, i);
        // what is altered is that alone
        for (int what = 0; what < 4; what++) {
            Run some = State.SOME.made();
            int[] traits = {3, 5, 6, 1};
            due(some, traits[what], "alter", 1, what, 2);
            traits[what] = 2;
            int[] first = {0, 1, 2, 0};
            for (int i = 0; i < 4; i++) due(some, traits[i], "moth", 1, i);
            for (int i = 0; i < 4; i++) due(some, first[i], "moth", 0, i);
        }
        says(16, "BAD.");
        for (int i = 0; i < 4; i++) bounds("alter", MOTH, just(i), within(0, most[i]));
        bounds("alter", MOTH, within(0, 3), just(0));
    }

    private void set() {
        says(17, "MOON (what 0), RATE (1) becomes v: what it was.");
        Run r = new Run();
        int[][] rows = {{0, 3, 0}, {0, 0, 3}, {1, 9, 1}, {1, 1, 9}, {0, 2, 0}, {1, 5, 1}, {0, 2, 2}, {1, 5, 5}};
        for (int[] row : rows) due(r, row[2], "set", row[0], row[1]);
        due(r, 2, "rule", 2);
        due(r, 5, "rule", 3);
        due(r, 0, "rule", 4);
        says(17, "BAD.");
        bounds("set", just(0), within(0, 3));
        bounds("set", just(1), within(1, 9));
        bounds("set", ONE_OR_OTHER, just(1));
        leaves(BAD, State.SOME, "set", 1, 0);
        leaves(BAD, State.SOME, "set", 0, 4);
    }
}
