/** Promises 38 to 42: SHEETS, foldings read from them, FAULTS of the machine, counts. */
final class EdgesOfSheets extends Edges {
    private static final int NULL_FAULT = 1, INDEX = 2, CAST = 3;

    @Override
    void tests() {
        sheet();
        newRow();
        lay();
        lowestBits();
        read();
        readEnds();
        readOfMachine();
        readRefused();
        readBad();
        torn();
        count();
    }

    /** An object with BOLTS all in BALE 0, each of which no moth meets. */
    private static Run withBolts(int bolts) {
        Run r = new Run();
        holds("the text is taken", r.tell("bolt 0 1 0;".repeat(bolts)) == bolts);
        return r;
    }

    private static void laid(Run r, int k, int lane, int... cells) {
        due(r, 1, "sheet", k, lane, cells.length);
        for (int i = 0; i < cells.length; i++) due(r, 1, "lay", k, i, cells[i]);
    }

    private void sheet() {
        says(38, "A SHEET is a new row of CELLS 0: 1.");
        for (State s : State.values()) {
            for (int k = 0; k < 4; k++) for (int lane = 0; lane < 3; lane++) for (int n : new int[] {0, 1, 39, 40}) {
                Run r = s.made();
                due(r, 1, "sheet", k, lane, n);
                if (k == 0) due(r, n, "count", 4);
                due(r, -12, "lay", k, n, 0);
                if (n > 0) due(r, 1, "lay", k, n - 1, 0);
            }
        }
        says(38, "BAD: also n above 40; -14 (SIZE): n below 0.");
        for (State s : State.values()) {
            for (int n : new int[] {41, 42, 255, 256, 65536, MAX - 1, MAX}) leaves(BAD, s, "sheet", 0, 0, n);
            for (int n : new int[] {-1, -2, -40, -256, MIN, MIN + 1}) {
                for (int lane = 0; lane < 3; lane++) leaves(-14, s, "sheet", 3, lane, n);
                leaves(-14, s, "sheet", 0, 0, n);
                leaves(BAD, s, "sheet", 4, 0, n);
                leaves(BAD, s, "sheet", -1, 0, n);
                leaves(BAD, s, "sheet", 0, 3, n);
                leaves(BAD, s, "sheet", 0, -1, n);
            }
        }
        for (int n : new int[] {0, 40}) bounds("sheet", within(0, 3), within(0, 2), just(n));
    }

    private void newRow() {
        says(38, "A SHEET is a new row of CELLS 0: 1.");
        // what had been laid is gone, its lane, too
        for (int k = 0; k < 4; k++) {
            for (int lane = 0; lane < 3; lane++) {
                Run r = withBolts(5);
                laid(r, k, (lane + 1) % 3, 4, 2, 3, 2);
                due(r, 1, "sheet", k, lane, 40);
                due(r, 20, "read", k, lane, 0, 20);
                due(r, 0, "torn");
                piles(r, 101234, 1, 1);
                due(r, 0, "read", k, (lane + 1) % 3, 0, 1);
                due(r, CAST, "torn");
                due(r, 1, "sheet", k, lane, 0);
                due(r, 0, "read", k, lane, 0, 1);
                due(r, INDEX, "torn");
            }
        }
        // a shorter row: what lay behind its end is not read any more
        Run r = withBolts(2);
        laid(r, 0, 0, 1, 1, 1, 2);
        due(r, 1, "sheet", 0, 0, 2);
        due(r, 1, "read", 0, 0, 0, 2);
        due(r, -12, "lay", 0, 2, 0);
        due(r, 1, "sheet", 0, 0, 4);
        due(r, 2, "read", 0, 0, 0, 2);
        piles(r, 101, 1, 1);
    }

    private void lay() {
        says(39, "CELL i of a SHEET becomes v (its lowest bits): 1.");
        for (int lane = 0; lane < 3; lane++) {
            Run r = withBolts(5);
            due(r, 1, "sheet", 1, lane, 40);
            int[] cells = {0, 1, 38, 39};
            for (int i : cells) due(r, 1, "lay", 1, i, i % 2 == 0 ? 4 : 2);
            due(r, 1, "read", 1, lane, 38, 1);
            piles(r, 10123, 1, 14);
            due(r, 1, "fold", 4, 1);
            due(r, 1, "read", 1, lane, 0, 1);
            piles(r, 10123, 1, 14);
            due(r, 1, "lay", 1, 0, 3);
            due(r, 1, "lay", 1, 1, 1);
            due(r, 1, "read", 1, lane, 0, 1);
            piles(r, 1012, 13, 14);
        }
        says(39, "BAD: k; -10 less the FAULT: NULL, INDEX.");
        for (int k = 0; k < 4; k++) leaves(-11, State.EMPTY, "lay", k, 0, 0);
        for (int i : new int[] {-1, 0, 40, MIN, MAX}) {
            leaves(-11, State.EMPTY, "lay", 0, i, 1);
            leaves(-11, State.SOME, "lay", 2, i, 1);
            leaves(-12, State.SOME, "lay", 1, i, 1);
        }
        for (int i : outside(0, 5)) leaves(-12, State.SOME, "lay", 0, i, 1);
        for (int k = 0; k < 4; k++) for (int i : outside(0, 39)) leaves(-12, State.FULL, "lay", k, i, 1);
        for (int i : new int[] {-1, 0, 40}) bounds("lay", within(0, 3), just(i), just(0));
        due(State.SOME.made(), 1, "lay", 0, 5, 0);
        due(State.SOME.made(), 1, "lay", 0, 0, MIN);
        due(State.SOME.made(), 1, "lay", 0, 0, MAX);
    }

    /** What a CELL of a lane is when v has been laid, told by the BOLT that is folded, or by the refusal. */
    private static void cell(int lane, int v, int is) {
        Run r = withBolts(5);
        laid(r, 0, lane, v, 1);
        boolean bolt = is >= 0 && is < 5;
        due(r, bolt ? 1 : -20, "read", 0, lane, 0, 1);
        for (int b = 0; b < 5; b++) due(r, bolt && b == is ? 1 : 0, "bolt", b, 4);
        // likewise as a BALE
        due(r, 1, "lay", 0, 0, 0);
        due(r, 1, "lay", 0, 1, v);
        boolean bale = is >= 0 && is < 3;
        due(r, bale ? 1 : -20, "read", 0, lane, 0, 1);
        if (bale) due(r, is, "bolt", 0, 4);
    }

    private void lowestBits() {
        says(39, "(its lowest bits)");
        int[] bytes = {4, 4, 5, 5, -1, -1, 127, 127, 128, -128, 255, -1, 256, 0, 257, 1, 260, 4, 511, -1, 512, 0, -255, 1, -256, 0,
            65538, 2, -65534, 2, MIN, 0, MIN + 3, 3, MAX, -1};
        for (int i = 0; i < bytes.length; i += 2) cell(0, bytes[i], bytes[i + 1]);
        int[] shorts = {4, 4, -1, -1, 256, 256, 258, 258, 32767, 32767, 32768, -32768, 65535, -1, 65536, 0, 65537, 1, 65540, 4,
            -65535, 1, -65536, 0, 131074, 2, MIN, 0, MIN + 3, 3, MAX, -1};
        for (int i = 0; i < shorts.length; i += 2) cell(1, shorts[i], shorts[i + 1]);
        for (int v : new int[] {0, 2, 4, 5, -1, 256, 258, 65536, 65537, -65535, 1 << 30, MIN, MIN + 3, MAX}) cell(2, v, v);
        says(39, "SHEETS 0 to 3 are rows of BYTES (lane 0), SHORTS (1), INTS (2), all with a sign, with 0 to 40 CELLS, or nothing (at first).");
        for (int lane = 0; lane < 3; lane++) cell(lane, -1, -1);
    }

    private void read() {
        says(40, "n (0 to 20) times a BOLT, a BALE are read of a SHEET taken as of a lane, two CELLS each from CELL f on, "
            + "one behind another as by fold(): how many were folded.");
        for (int lane = 0; lane < 3; lane++) {
            Run r = withBolts(5);
            laid(r, 2, lane, 4, 2, 3, 2, 4, 2, 0, 0);
            due(r, 1, "read", 2, lane, 0, 1);
            piles(r, 10123, 1, 14);
            due(r, 3, "read", 2, lane, 2, 3);
            piles(r, 1012, 1, 143);
            due(r, 4, "read", 2, lane, 0, 4);
            piles(r, 1012, 1, 143);
            // from the next CELL on they are other numbers: BALE 3 there is not
            due(r, -20, "read", 2, lane, 1, 3);
        }
        // by odd CELLS: 2, 1; 0, 2; 2, 0
        Run odd = withBolts(3);
        laid(odd, 0, 0, 9, 2, 1, 0, 2, 2, 0, 9);
        due(odd, 3, "read", 0, 0, 1, 3);
        piles(odd, 121, 1, 10);
        due(odd, 0, "torn");
        // all 20, each BOLT again and again
        Run all = withBolts(5);
        int[] cells = new int[40];
        for (int i = 0; i < 20; i++) {
            cells[2 * i] = i % 5;
            cells[2 * i + 1] = i % 3;
        }
        laid(all, 3, 2, cells);
        due(all, 20, "read", 3, 2, 0, 20);
        // the last five are 0 on 0, 1 on 1, 2 on 2, 3 on 0, 4 on 1
        piles(all, 130, 141, 12);
        due(all, 0, "torn");
    }

    private void readEnds() {
        says(40, "What the machine refuses: those that were whole ahead are (its FAULT is asked by torn();");
        int[] forty = new int[40];
        Run r = withBolts(1);
        laid(r, 0, 0, forty);
        int[][] rows = {{0, 20, 20, 0}, {1, 20, 19, INDEX}, {2, 20, 19, INDEX}, {2, 19, 19, 0}, {1, 19, 19, 0}, {37, 2, 1, INDEX}, {38, 1, 1, 0},
            {38, 2, 1, INDEX}, {39, 1, 0, INDEX}, {40, 1, 0, INDEX}, {41, 1, 0, INDEX}, {-1, 1, 0, INDEX}, {-1, 20, 0, INDEX}, {-2, 20, 0, INDEX},
            {-40, 20, 0, INDEX}, {MIN, 1, 0, INDEX}, {MIN, 20, 0, INDEX}, {MIN + 1, 20, 0, INDEX}, {MAX, 1, 0, INDEX}, {MAX, 20, 0, INDEX},
            {MAX - 1, 20, 0, INDEX}, {MAX - 37, 20, 0, INDEX}, {1 << 30, 20, 0, INDEX}, {0, 0, 0, 0}};
        for (int[] row : rows) {
            due(r, row[2], "read", 0, 0, row[0], row[1]);
            due(r, row[3], "torn");
        }
        // those ahead are folded, the half one is not
        Run half = withBolts(3);
        laid(half, 0, 1, 2, 1, 1, 1, 0);
        due(half, 2, "read", 0, 1, 0, 3);
        due(half, INDEX, "torn");
        piles(half, 10, 112, 1);
        due(half, 2, "read", 0, 1, 0, 2);
        due(half, 0, "torn");
        Run one = withBolts(1);
        laid(one, 0, 1, 0);
        due(one, 0, "read", 0, 1, 0, 1);
        due(one, INDEX, "torn");
    }

    private void readOfMachine() {
        says(40, "A FAULT is what the machine finds: 1 NULL (nothing), 2 INDEX, 3 CAST (another lane), 4 SIZE (below 0).");
        Run r = State.SOME.made();
        for (int k = 2; k < 4; k++) for (int lane = 0; lane < 3; lane++) for (int f : new int[] {0, -1, MIN, MAX}) {
            due(r, 0, "read", k, lane, f, 20);
            due(r, NULL_FAULT, "torn");
        }
        // SHEET 0 is of BYTES, SHEET 1 of SHORTS: the lane is looked at ahead of the CELLS
        for (int k = 0; k < 2; k++) {
            for (int lane = 0; lane < 3; lane++) for (int f : new int[] {40, -1, MIN, MAX}) {
                due(r, 0, "read", k, lane, f, 1);
                due(r, lane == k ? INDEX : CAST, "torn");
            }
        }
        due(r, 0, "read", 1, 1, 0, 20);
        due(r, INDEX, "torn");
        due(r, -14, "sheet", 0, 0, -1);
        says(40, "of n 0: 0, no FAULT, whatever the SHEET is)");
        for (int k = 0; k < 4; k++) for (int lane = 0; lane < 3; lane++) for (int f : new int[] {0, -1, 41, MIN, MAX}) {
            due(r, 0, "read", 3, 0, 0, 1);
            due(r, NULL_FAULT, "torn");
            due(r, 0, "read", k, lane, f, 0);
            due(r, 0, "torn");
        }
    }

    private void readRefused() {
        says(40, "-20 less i (from 0 on): the i-th, whole, is refused by fold(): then none is; the first met.");
        // the i-th of 20 is refused, by its BOLT or its BALE: none is folded, torn() stays
        for (int i = 0; i < 20; i++) {
            Run r = withBolts(2);
            int[] cells = new int[40];
            for (int j = 0; j < 20; j++) cells[2 * j] = 1;
            cells[2 * i + i % 2] = i % 2 == 0 ? 2 : 3;
            laid(r, 0, 0, cells);
            due(r, 0, "read", 3, 0, 0, 1);
            due(r, -20 - i, "read", 0, 0, 0, 20);
            due(r, NULL_FAULT, "torn");
            piles(r, 101, 1, 1);
            due(r, i, "read", 0, 0, 0, i);
        }
        Run wrong = withBolts(3);
        laid(wrong, 0, 2, 2, 0, 0, 0);
        for (int v : outside(0, 2)) {
            for (int i = 0; i < 2; i++) {
                due(wrong, 1, "lay", 0, 2 + i, v);
                due(wrong, -21, "read", 0, 2, 0, 2);
                due(wrong, 1, "lay", 0, 2 + i, 0);
            }
        }
        piles(wrong, 1012, 1, 1);
        // two are refused: the first; a refused one ahead of the machine's FAULT goes ahead of it, a half one is none
        Run met = withBolts(3);
        laid(met, 0, 0, 2, 1, 2, 3, 3, 0, 9);
        due(met, -21, "read", 0, 0, 0, 3);
        due(met, -21, "read", 0, 0, 0, 20);
        due(met, 0, "torn");
        piles(met, 1012, 1, 1);
        due(met, 1, "lay", 0, 3, 1);
        due(met, -22, "read", 0, 0, 0, 20);
        due(met, 1, "lay", 0, 4, 0);
        due(met, 3, "read", 0, 0, 0, 20);
        due(met, INDEX, "torn");
        piles(met, 101, 12, 1);
        due(new Run(), 0, "read", 0, 0, 0, 1);
        Run none = new Run();
        laid(none, 0, 0, 0, 0);
        due(none, -20, "read", 0, 0, 0, 1);
        leaves(-20, State.FULL, "read", 1, 1, 38, 1);
        leaves(-39, State.FULL, "read", 1, 1, 0, 20);
        leaves(-39, State.FULL, "read", 2, 2, 0, 20);
        leaves(-20, State.FULL, "read", 2, 2, 38, 2);
    }

    private void readBad() {
        says(40, "BAD: k, lane, n;");
        for (int f : new int[] {0, MIN, MAX}) bounds("read", within(0, 3), within(0, 2), just(f), within(0, 20));
    }

    private void torn() {
        says(41, "The FAULT of the latest read() that answered 0 or more; 0 (one that is refused leaves it).");
        Run r = withBolts(1);
        due(r, 0, "torn");
        due(r, 0, "read", 1, 0, 0, 1);
        due(r, NULL_FAULT, "torn");
        due(r, 1, "sheet", 1, 0, 1);
        due(r, NULL_FAULT, "torn");
        due(r, 0, "read", 1, 0, 0, 1);
        due(r, INDEX, "torn");
        due(r, BAD, "read", 1, 0, 0, 21);
        due(r, BAD, "read", 1, 3, 0, 0);
        due(r, BAD, "read", 4, 0, 0, 0);
        due(r, INDEX, "torn");
        due(r, 0, "read", 1, 2, 0, 1);
        due(r, CAST, "torn");
        laid(r, 1, 2, 1, 0);
        due(r, -20, "read", 1, 2, 0, 1);
        due(r, CAST, "torn");
        due(r, -12, "lay", 1, 2, 0);
        due(r, -11, "lay", 0, 0, 0);
        due(r, -14, "sheet", 0, 0, -1);
        due(r, 0, "keep", 0);
        due(r, 0, "back", 0);
        due(r, 0, "text");
        due(r, CAST, "torn");
        due(r, 0, "read", 1, 2, 0, 0);
        due(r, 0, "torn");
        for (State s : State.values()) leaves(s == State.SOME ? CAST : 0, s, "torn");
    }

    private void count() {
        says(42, "How many: 0 HOLES in all, 1 SEEN, 2 IMAGES, 3 bytes on THE TAPE, 4 CELLS of SHEET 0 (NONE: nothing).");
        int[][] counts = {{0, 0, 0, 0, NONE}, {6, 3, 1, 7, 6}, {36, 6, 2, 160, 40}};
        for (State s : State.values()) for (int what = 0; what < 5; what++) leaves(counts[s.ordinal()][what], s, "count", what);
        Run r = new Run();
        due(r, 1, "sheet", 1, 0, 5);
        due(r, NONE, "count", 4);
        due(r, -14, "sheet", 0, 0, -1);
        due(r, NONE, "count", 4);
        due(r, 1, "sheet", 0, 0, 0);
        due(r, 0, "count", 4);
        due(r, 1, "sheet", 0, 2, 40);
        due(r, 40, "count", 4);
        due(r, BAD, "sheet", 0, 2, 41);
        due(r, 40, "count", 4);
        Run most = new Run();
        most.tell("bolt 0 9 0;bolt 0 9 0;bolt 0 9 0;bolt 0 9 0;bolt 0 9 0;glutton 0 9 0;glutton 0 9 0;glutton 0 9 0;");
        due(most, 9, "go", 1);
        due(most, 45, "count", 0);
        says(42, "BAD.");
        bounds("count", within(0, 4));
    }
}
