/** Promises 1 to 5: a new object, THE TAPE, its TOKENS and FAULTS. */
final class EdgesOfText extends Edges {
    private static final String FIVE_BOLTS = "bolt 0 0 0;bolt 0 0 0;bolt 0 0 0;bolt 0 0 0;bolt 0 0 0;";
    private static final String FOUR_MOTHS = "plain 0 0 0;picky 0 0 0;glutton 0 0 0;fat 0 0 0;";
    private static final String TOKENS = "TOKENS, each as long as may be, blanks (32) ahead, between, behind, as many as wanted "
        + "(at least one between two NAMES, between two NUMBERS; else none is needed):";
    private static final String ORDER = "FAULTS, the first met as it is read (a TOKEN is read when the one before has been taken):";

    @Override
    void tests() {
        newObject();
        feed();
        end();
        bytesOfTheTape();
        tokens();
        bytesAlone();
        lines();
        cutLines();
        numbersOfBolts();
        numbersOfMoths();
        numbersOfOneNumberLines();
        text();
        taken();
        fault();
        orderOfFaults();
        noToken();
        misplaced();
        outOfBounds();
        twice();
        tooMany();
        noBolt();
    }

    /** On THE TAPE of an object with much in it: the FAULT and its place, and that all but THE TAPE stays. */
    private static void faultOf(String text, int fault, int place) {
        Run r = State.SOME.made();
        r.call("end", 0);
        long got = r.tell(text);
        holds("text() of '" + text + "' answered " + got + ", due is " + (-10 - place), got == -10 - place);
        due(r, fault, "fault");
        due(r, 0, "count", 3);
        String is = withoutTape(State.seenOf(r, 0)), was = withoutTape(State.seenOf(State.SOME.made(), 0));
        holds("'" + text + "' changed what was: " + firstOther(was, is), is.equals(was));
    }

    private static String withoutTape(String seen) {
        return seen.replaceFirst("fault = \\d+\n", "").replaceFirst("count 3 = \\d+\n", "");
    }

    private static Run taken(String text, int lines) {
        Run r = new Run();
        long got = r.tell(text);
        holds("text() of '" + text + "' answered " + got + ", due is " + lines, got == lines);
        due(r, 0, "fault");
        return r;
    }

    private void newObject() {
        says(1, "Three BALES of nothing, no MOTHS; SHEETS of nothing.");
        Run r = new Run();
        piles(r, 1, 1, 1);
        for (int k = 0; k < 3; k++) due(r, 0, "bale", k, 1);
        for (int k = 0; k < 3; k++) for (int i = 10; i < 15; i++) due(r, NONE, "bale", k, i);
        due(r, 0, "rule", 0);
        due(r, 0, "rule", 1);
        due(r, BAD, "bolt", 0, 0);
        due(r, BAD, "moth", 0, 0);
        for (int k = 0; k < 4; k++) due(r, -11, "lay", k, 0, 0);
        for (int k = 0; k < 4; k++) for (int lane = 0; lane < 3; lane++) {
            due(r, 0, "read", k, lane, 0, 1);
            due(r, 1, "torn");
        }
        says(1, "MOON (0 to 3; 0 at first), RATE (1 to 9; 1), NIGHT (0 at first).");
        Run fresh = new Run();
        int[] rules = {0, 0, 0, 1, 0, 0, 0};
        for (int i = 0; i < 7; i++) due(fresh, rules[i], "rule", i);
        int[] counts = {0, 0, 0, 0, NONE};
        for (int i = 0; i < 5; i++) due(fresh, counts[i], "count", i);
        due(fresh, 0, "fault");
        due(fresh, 0, "torn");
        for (int k = 0; k < 2; k++) due(fresh, STATE, "back", k);
        says(1, "SHEETS 0 to 3 are rows of BYTES (lane 0), SHORTS (1), INTS (2), all with a sign, with 0 to 40 CELLS, or nothing (at first).");
        due(fresh, NONE, "count", 4);
        for (int k = 0; k < 4; k++) due(fresh, -11, "lay", k, 0, 0);
        says(1, "BALES are 3.");
        for (int k = 0; k < 3; k++) due(fresh, 0, "bale", k, 0);
        due(fresh, BAD, "bale", 3, 0);
        due(fresh, BAD, "bale", -1, 0);
    }

    private void feed() {
        says(2, "A byte (0 to 127) comes behind THE TAPE: how many it has.");
        Run r = new Run();
        for (int c = 0; c <= 127; c++) due(r, c + 1, "feed", c);
        Run behind = new Run().feed("moon1");
        due(behind, 6, "feed", ';');
        due(behind, 1, "text");
        due(behind, 1, "rule", 2);
        says(2, "BAD; FULL: more than 160.");
        bounds("feed", within(0, 127));
        Run full = new Run();
        for (int i = 1; i <= 160; i++) due(full, i, "feed", 32);
        due(full, FULL, "feed", 32);
        due(full, 160, "count", 3);
        for (int c : new int[] {0, 32, 127}) leaves(FULL, State.FULL, "feed", c);
        due(full, 160, "end", 159);
        due(full, 160, "feed", 127);
        due(full, FULL, "feed", 127);
    }

    private void end() {
        says(3, "THE TAPE keeps its first n bytes: how many it had.");
        Run r = new Run();
        due(r, 0, "end", 0);
        r.feed("moon 12");
        due(r, 7, "end", 7);
        due(r, 7, "end", 6);
        due(r, 6, "count", 3);
        due(r, 7, "feed", ';');
        due(r, 1, "text");
        due(r, 1, "rule", 2);
        Run cut = new Run().feed("moon 12");
        due(cut, 7, "end", 6);
        due(cut, -16, "text");
        Run full = State.FULL.made();
        due(full, 160, "end", 160);
        due(full, 160, "end", 159);
        due(full, 159, "end", 0);
        due(full, 0, "count", 3);
        due(full, 0, "text");
        says(3, "BAD (n above that, too).");
        leaves(BAD, State.EMPTY, "end", 1);
        leaves(BAD, State.SOME, "end", 8);
        leaves(BAD, State.FULL, "end", 161);
        for (State s : State.values()) for (int n : new int[] {-1, -160, 256, MIN, MAX}) leaves(BAD, s, "end", n);
    }

    private void bytesOfTheTape() {
        says(4, "THE TAPE has 160 bytes, places from 0.");
        taken(" ".repeat(160), 0);
        due(taken(" ".repeat(153) + "moon 3;", 1), 3, "rule", 2);
        due(taken("moon 3;" + " ".repeat(153), 1), 3, "rule", 2);
        Run r = new Run();
        holds("the 160th byte stands at place 159", r.tell(" ".repeat(159) + ".") == -169);
        holds("the length is 160", r.tell(" ".repeat(156) + "moon") == -170);
        holds("the first byte stands at place 0", r.tell(".") == -10);
    }

    private void tokens() {
        says(4, TOKENS);
        Run r = taken("bolt5 9 2;moon3;rate9;fat0 9 2;", 4);
        due(r, 9, "bolt", 0, 1);
        due(r, 2, "moth", 0, 3);
        due(taken("   bolt   5   9   2   ;   moon   3   ;   ", 2), 3, "rule", 2);
        due(taken("rate01;", 1), 1, "rule", 3);
        faultOf("moonrate 1;", 2, 0);
        faultOf("moon rate 1;", 2, 5);
        faultOf("bolt 12 0;", 3, 5);
        faultOf("bolt 1 20;", 3, 7);
        faultOf("bolt 120;", 1, 5);
        faultOf("mo on 1;", 2, 0);
        faultOf("rate 1 0;", 2, 7);
        faultOf("plainplain 1 1 1;", 2, 0);
        for (char c : new char[] {0, 9, 10, 13, 31, 33, 127}) faultOf("moon" + c + "1;", 1, 4);
    }

    /** Each of the 128 bytes is the whole text: only blanks tell something, the empty text. */
    private void bytesAlone() {
        says(5, "NAMES (a .. z), NUMBERS (1 or 2 figures), the sign ; (a point is none).");
        for (char c = 0; c <= 127; c++) {
            boolean token = c >= 'a' && c <= 'z' || c >= '0' && c <= '9' || c == ';';
            if (c == ' ') taken(" ", 0);
            else faultOf(String.valueOf(c), token ? 2 : 1, 0);
        }
        for (char c = 0; c <= 127; c++) {
            String text = "moon 1" + c;
            if (c == ';') taken(text, 1);
            else if (c == ' ') faultOf(text, 2, 7);
            else if (c >= '0' && c <= '9') faultOf(text, 3, 5);
            else faultOf(text, c >= 'a' && c <= 'z' ? 2 : 1, 6);
        }
    }

    private void lines() {
        says(4, "text: { line } line: bolt N N N ; | plain N N N ; | picky N N N ; | glutton N N N ; | fat N N N ; "
            + "| camphor N ; | moon N ; | rate N ;");
        taken("", 0);
        taken("bolt 0 0 0;", 1);
        String[] kinds = {"plain", "picky", "glutton", "fat"};
        for (int kind = 0; kind < 4; kind++) {
            Run r = taken(kinds[kind] + " 1 2 1;", 1);
            int[] moth = {kind, 1, 2, 1};
            for (int i = 0; i < 4; i++) due(r, moth[i], "moth", 0, i);
        }
        taken("moon 0;", 1);
        taken("rate 1;", 1);
        due(taken("camphor 0;bolt 0 0 0;", 2), 1, "rule", 5);
        due(taken("bolt 0 0 0;camphor 0;", 2), 1, "rule", 5);
        // as many lines as there can be
        Run all = taken("bolt0 0 0;bolt0 0 0;bolt0 0 0;bolt0 0 0;bolt0 0 0;plain0 0 0;fat0 0 0;fat0 0 0;fat0 0 0;"
            + "camphor0;camphor1;camphor2;camphor3;camphor4;moon1;rate2;", 16);
        due(all, 31, "rule", 5);
        due(all, 4, "rule", 1);
    }

    /** A text that is cut behind each of its bytes: told lines are whole, else the end, or half a NAME, can not stand there. */
    private void cutLines() {
        says(5, "2 a TOKEN that can not stand there (a NAME that begins no line; or the end: the length).");
        String text = "bolt 1 9 0; picky 5 0 2 ;camphor 0;rate 9 ;moon 03; glutton 0 0 0;fat 0 0 0;plain 0 0 0;";
        int whole = 0;
        for (int n = 1; n <= text.length(); n++) {
            String cut = text.substring(0, n);
            char last = cut.charAt(n - 1);
            if (last == ';') whole++;
            String begun = cut.substring(cut.lastIndexOf(';') + 1);
            if (begun.isBlank()) {
                taken(cut, whole);
                continue;
            }
            int name = n;
            while (name > 0 && Character.isLetter(cut.charAt(name - 1))) name--;
            boolean half = name < n && Character.isLetter(text.charAt(n));
            faultOf(cut, 2, half ? name : n);
        }
    }

    /** Each number of two figures, alone and behind a 0, in each place of a line: what is out of its bounds is a FAULT there. */
    private static void numbers(String ahead, String behind, int least, int most, String name, int... asked) {
        for (int v = 0; v <= 99; v++) {
            for (String figures : v < 10 ? new String[] {"" + v, "0" + v} : new String[] {"" + v}) {
                String text = ahead + figures + behind;
                if (v >= least && v <= most) due(taken(text, text.split(";").length), v, name, asked);
                else faultOf(text, 3, ahead.length());
            }
        }
        for (String figures : new String[] {"000", "001", "100", "0000000001", "4294967297", "99999999999999999999"}) {
            faultOf(ahead + figures + behind, 1, ahead.length());
        }
    }

    private void numbersOfBolts() {
        says(4, "bolt: a BOLT more: DYE, WOOL, its BALE (0 to 2; it lies below those told ahead of it).");
        numbers("bolt ", " 0 0;", 0, 5, "bolt", 0, 0);
        numbers("bolt 0 ", " 0;", 0, 9, "bolt", 0, 1);
        numbers("bolt 0 0 ", ";", 0, 2, "bolt", 0, 4);
        piles(taken("bolt 0 1 2;bolt 0 1 0;bolt 0 1 2;bolt 0 1 0;bolt 0 1 2;", 5), 113, 1, 1024);
        says(4, "BOLTS 0 on (5 at most, by order), each of a DYE (0 to 5), with WOOL (0 to 9), HOLES (0 to WOOL; 0 at first), "
            + "with CAMPHOR or not (not), in a BALE, in a LAYER of it (0 the top one).");
        Run r = taken("bolt 5 9 1;bolt 0 0 1;bolt 4 8 1;bolt 3 7 1;bolt 2 6 1;", 5);
        int[][] bolts = {{5, 9}, {0, 0}, {4, 8}, {3, 7}, {2, 6}};
        for (int b = 0; b < 5; b++) {
            due(r, bolts[b][0], "bolt", b, 0);
            due(r, bolts[b][1], "bolt", b, 1);
            due(r, 0, "bolt", b, 2);
            due(r, 0, "bolt", b, 3);
            due(r, 1, "bolt", b, 4);
            due(r, b, "bolt", b, 5);
        }
    }

    private void numbersOfMoths() {
        says(4, "plain, picky, glutton, fat: a MOTH more of that KIND: TASTE, HUNGER, AT.");
        for (String kind : new String[] {"plain ", "picky ", "glutton ", "fat "}) {
            numbers(kind, " 0 0;", 0, 5, "moth", 0, 1);
            numbers(kind + "0 ", " 0;", 0, 9, "moth", 0, 2);
            numbers(kind + "0 0 ", ";", 0, 2, "moth", 0, 3);
        }
        says(4, "MOTHS 0 on (4 at most, by order), each of a KIND (0 plain, 1 picky, 2 glutton, 3 fat), with a TASTE (0 to 5), "
            + "a HUNGER (0 to 9), AT a BALE.");
        Run r = taken("fat 5 9 2;glutton 0 0 0;picky 4 8 1;plain 3 7 2;", 4);
        int[][] moths = {{3, 5, 9, 2}, {2, 0, 0, 0}, {1, 4, 8, 1}, {0, 3, 7, 2}};
        for (int m = 0; m < 4; m++) for (int i = 0; i < 4; i++) due(r, moths[m][i], "moth", m, i);
    }

    private void numbersOfOneNumberLines() {
        says(4, "moon: MOON. rate: RATE.");
        numbers("moon ", ";", 0, 3, "rule", 2);
        numbers("rate ", ";", 1, 9, "rule", 3);
        says(4, "camphor: a BOLT (0 to 4) that has it.");
        for (int b = 0; b < 5; b++) due(taken(FIVE_BOLTS + "camphor " + b + ";", 6), 1 << b, "rule", 5);
        for (int v = 5; v <= 99; v++) faultOf("camphor " + v + ";", 3, 8);
        due(taken("camphor 00;camphor 04;" + FIVE_BOLTS, 7), 17, "rule", 5);
    }

    private void text() {
        says(4, "THE TAPE (empty then, by a FAULT, too) tells all: how many lines;");
        Run r = new Run();
        due(r, 0, "text");
        r.feed("moon 1;");
        due(r, 1, "text");
        due(r, 0, "count", 3);
        due(r, 0, "text");
        due(r, 0, "rule", 2);
        r.feed("moon 2;.");
        due(r, -17, "text");
        due(r, 0, "count", 3);
        due(r, 0, "text");
        r.feed(" ".repeat(160));
        due(r, 0, "text");
        due(r, 1, "feed", 32);
        says(4, "-10 less the place of its FAULT: that which was told stays.");
        // a FAULT behind lines that would tell all otherwise: nothing of them is taken
        String other = "bolt 0 9 2;bolt 0 9 2;plain 0 1 2;moon 1;rate 9;camphor 0;camphor 1;";
        faultOf(other + "x", 2, other.length());
        faultOf(other + ".", 1, other.length());
        faultOf(other + "moon 0;", 4, other.length());
        faultOf(other + "camphor 1;", 4, other.length() + 8);
        faultOf(other + "camphor 2;", 6, other.length() + 10);
        for (State s : new State[] {State.SOME, State.FULL}) {
            Run image = s.made();
            image.call("end", 0);
            holds("a FAULT", image.tell("rate 0;") == -15);
            due(image, s == State.SOME ? 1 : 2, "count", 2);
            due(image, s == State.SOME ? 3 : 6, "count", 1);
            due(image, s == State.SOME ? 1 : 999, "back", 0);
        }
    }

    private void taken() {
        says(4, "A text that is taken tells all, in place of what there was (what it does not tell is as at first); "
            + "nothing is SEEN; IMAGES are gone; SHEETS stay.");
        Run r = State.FULL.made();
        r.call("end", 0);
        due(r, 0, "text");
        int[] rules = {0, 0, 0, 1, 0, 0, 0};
        for (int i = 0; i < 7; i++) due(r, rules[i], "rule", i);
        piles(r, 1, 1, 1);
        int[] counts = {0, 0, 0, 0, 40};
        for (int i = 0; i < 5; i++) due(r, counts[i], "count", i);
        due(r, STATE, "back", 0);
        due(r, STATE, "back", 1);
        due(r, BAD, "bolt", 0, 0);
        due(r, BAD, "moth", 0, 0);
        Run some = State.SOME.made();
        some.call("end", 0);
        // what would have been is no part of it either
        due(some, 9, "ahead", 20, 1);
        due(some, 9, "best", 0);
        holds("a text that is taken", some.tell("bolt 3 3 1;fat 0 0 0;") == 2);
        int[] bolt = {3, 3, 0, 0, 1, 0};
        for (int i = 0; i < 6; i++) due(some, bolt[i], "bolt", 0, i);
        int[] rule = {1, 1, 0, 1, 0, 0, 0};
        for (int i = 0; i < 7; i++) due(some, rule[i], "rule", i);
        piles(some, 1, 10, 1);
        due(some, 0, "count", 1);
        due(some, STATE, "back", 0);
        due(some, 6, "count", 4);
        due(some, 1, "lay", 0, 5, 0);
        due(some, -12, "lay", 1, 0, 0);
        due(some, -11, "lay", 2, 0, 0);
        due(some, 3, "torn");
    }

    private void fault() {
        says(5, "The FAULT of the latest text(); 0.");
        Run r = new Run();
        due(r, 0, "fault");
        String[] texts = {".", "x", "moon 4;", "moon 1;moon 1;", FOUR_MOTHS + "fat", "camphor 0;"};
        for (int i = 0; i < 6; i++) {
            r.tell(texts[i]);
            due(r, i + 1, "fault");
            r.feed("moon 1");
            due(r, i + 1, "fault");
            r.call("end", 0);
            due(r, i + 1, "fault");
        }
        due(r, 0, "text");
        due(r, 0, "fault");
        for (State s : State.values()) leaves(s == State.SOME ? 3 : 0, s, "fault");
    }

    private void orderOfFaults() {
        says(5, ORDER);
        faultOf("moon 4.", 3, 5);
        faultOf("moon 4 4;", 3, 5);
        faultOf("moon .", 1, 5);
        faultOf("moon 3.", 1, 6);
        faultOf("x.", 2, 0);
        faultOf("; .", 2, 0);
        faultOf("moon 3;moon.", 4, 7);
        faultOf("rate 3;rate 10;", 4, 7);
        faultOf("camphor 0;camphor 0.", 4, 18);
        faultOf("camphor 5.", 3, 8);
        faultOf(FIVE_BOLTS + "bolt.", 5, FIVE_BOLTS.length());
        faultOf(FIVE_BOLTS + "bolt 9 9 9;", 5, FIVE_BOLTS.length());
        faultOf(FOUR_MOTHS + "fat.", 5, FOUR_MOTHS.length());
        faultOf("bolt 6 10 3;", 3, 5);
        faultOf("camphor 4;moon 4;", 3, 15);
        faultOf("moon 4;moon 3;", 3, 5);
        faultOf("bolt 0 .", 1, 7);
        faultOf("bolt 0 ;", 2, 7);
        faultOf("moon 123", 1, 5);
    }

    private void noToken() {
        says(5, "1 no TOKEN, a NUMBER that is too long (its first byte).");
        faultOf("123", 1, 0);
        faultOf("  000;", 1, 2);
        faultOf("moon 1 100;", 1, 7);
        faultOf("moon 1;Moon 2;", 1, 7);
        faultOf("moon -1;", 1, 5);
        faultOf("moon 1.", 1, 6);
        faultOf("rate 1,", 1, 6);
        faultOf(" ".repeat(156) + "1234", 1, 156);
        faultOf(" ".repeat(158) + "12", 2, 158);
    }

    private void misplaced() {
        says(5, "2 a TOKEN that can not stand there (a NAME that begins no line; or the end: the length).");
        String[] ahead = {"", "moon 1;", "bolt", "bolt 1", "bolt 1 1", "bolt 1 1 1", "camphor", "camphor 1", "rate", "rate 1"};
        String[] names = {"name", "name", "number", "number", "number", ";", "number", ";", "number", ";"};
        String[] tokens = {" bolt", " 1", " ;"};
        String[] called = {"name", "number", ";"};
        for (int i = 0; i < ahead.length; i++) {
            for (int j = 0; j < 3; j++) if (!names[i].equals(called[j])) faultOf(ahead[i] + tokens[j], 2, ahead[i].length() + 1);
            if (i > 1) faultOf(ahead[i] + "  ", 2, ahead[i].length() + 2);
        }
        for (String name : new String[] {"a", "z", "bol", "bolts", "olt", "plai", "plainer", "pick", "glutto", "gluttons", "fa", "fats",
            "camphors", "campho", "moo", "moons", "rat", "rates", "mooon", "molt"}) {
            faultOf(name + " 1 1 1;", 2, 0);
            faultOf("rate 1; " + name, 2, 8);
        }
    }

    private void outOfBounds() {
        says(5, "3 a NUMBER out of its bounds.");
        faultOf("rate 0;", 3, 5);
        faultOf("rate 00;", 3, 5);
        faultOf("rate 10;", 3, 5);
        faultOf("moon 4;", 3, 5);
        faultOf("camphor 5;", 3, 8);
        faultOf("bolt 6 9 2;", 3, 5);
        faultOf("bolt 5 10 2;", 3, 7);
        faultOf("bolt 5 9 3;", 3, 9);
    }

    private void twice() {
        says(5, "4 moon, rate for the second time (its NAME); a BOLT that has CAMPHOR already (it).");
        faultOf("moon 0;moon 0;", 4, 7);
        faultOf("moon 1; rate 1;  moon 1;", 4, 17);
        faultOf("rate 1;rate 1;", 4, 7);
        faultOf("rate 9;moon 0;rate 9;", 4, 14);
        taken("moon 0;rate 1;", 2);
        taken("rate 1;moon 0;", 2);
        faultOf("camphor 0;camphor 0;", 4, 18);
        faultOf("camphor 4;camphor 3;camphor 04;", 4, 28);
        due(taken(FIVE_BOLTS + "camphor 0;camphor 1;", 7), 3, "rule", 5);
        // the latest text has no part in it
        Run r = taken("moon 1;rate 1;bolt 0 0 0;camphor 0;", 4);
        holds("the second text", r.tell("moon 1;rate 1;bolt 0 0 0;camphor 0;") == 4);
        holds("behind a FAULT", r.tell("moon 1;rate 1;.") == -24 && r.tell("moon 1;rate 1;") == 2);
    }

    private void tooMany() {
        says(5, "5 the 6th bolt, the 5th MOTH (its NAME).");
        due(taken(FIVE_BOLTS, 5), 5, "rule", 0);
        faultOf(FIVE_BOLTS + " bolt 0 0 0;", 5, FIVE_BOLTS.length() + 1);
        faultOf(FIVE_BOLTS + "bolt", 5, FIVE_BOLTS.length());
        taken(FIVE_BOLTS + FOUR_MOTHS, 9);
        due(taken(FOUR_MOTHS, 4), 4, "rule", 1);
        for (String kind : new String[] {"plain", "picky", "glutton", "fat"}) {
            faultOf(FOUR_MOTHS + kind + " 0 0 0;", 5, FOUR_MOTHS.length());
            faultOf(FOUR_MOTHS + "  " + kind, 5, FOUR_MOTHS.length() + 2);
        }
        holds("the text ahead has no part in it", taken(FIVE_BOLTS + FOUR_MOTHS, 9).tell("bolt 0 0 0;fat 0 0 0;") == 2);
    }

    private void noBolt() {
        says(5, "Behind all (the length): 6 a BOLT that there is not.");
        faultOf("camphor 0;", 6, 10);
        faultOf("camphor 0;  ", 6, 12);
        faultOf("camphor 1;bolt 0 0 0;", 6, 21);
        due(taken("camphor 1;bolt 0 0 0;bolt 0 0 0;", 3), 2, "rule", 5);
        faultOf(FIVE_BOLTS.substring(11) + "camphor 4;", 6, FIVE_BOLTS.length() - 1);
        due(taken(FIVE_BOLTS + "camphor 4;", 6), 16, "rule", 5);
        faultOf("camphor 0;" + " ".repeat(150), 6, 160);
    }
}
