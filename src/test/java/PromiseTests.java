/** The promises one by one, with answers reckoned by hand. */
public final class PromiseTests {
    private static final int BAD = -1, STATE = -2, FULL = -3, NONE = -4;
    private static final int FAR = Integer.MAX_VALUE, LOW = Integer.MIN_VALUE;
    private static final String TWO = "bolt 0 3 0; bolt 0 9 0; plain 0 2 0;";
    private static final String MANY = "bolt 2 5 0; bolt 3 4 0; bolt 0 6 0; bolt 2 3 1;"
        + "plain 2 3 0; glutton 0 1 0; picky 2 4 1; fat 1 9 1; rate 2; moon 1;";

    private static int passed = 0, failed = 0;
    private static String promise = "";

    private static void due(String call, long got, long due) {
        if (got == due) {
            passed++;
            return;
        }
        failed++;
        System.out.println("promise " + promise + ": " + call + " answered " + got + ", due is " + due);
    }

    private static int tell(MothCustoms x, String text) {
        for (int i = 0; i < text.length(); i++) x.feed(text.charAt(i));
        return x.text();
    }

    private static MothCustoms told(String text) {
        MothCustoms x = new MothCustoms();
        int lines = tell(x, text);
        if (lines < 0) due("text() of " + text, lines, 0);
        return x;
    }

    /** Bolts of a bale from the top, as figures behind a 1. */
    private static int pile(MothCustoms x, int k) {
        int figures = 1;
        for (int i = 0; i < x.bale(k, 0); i++) figures = 10 * figures + x.bale(k, 10 + i);
        return figures;
    }

    private static void piles(MothCustoms x, int first, int second, int third) {
        due("bale 0", pile(x, 0), first);
        due("bale 1", pile(x, 1), second);
        due("bale 2", pile(x, 2), third);
    }

    private static String all(MothCustoms x) {
        StringBuilder s = new StringBuilder();
        for (int i = 0; i < 7; i++) s.append(x.rule(i)).append(' ');
        for (int b = 0; b < 5; b++) for (int i = 0; i < 6; i++) s.append(x.bolt(b, i)).append(' ');
        for (int m = 0; m < 4; m++) for (int i = 0; i < 6; i++) s.append(x.moth(m, i)).append(' ');
        for (int i = 0; i < 5; i++) s.append(x.count(i)).append(' ');
        return s.append(x.fault()).append(' ').append(x.torn()).toString();
    }

    private static void unchanged(MothCustoms x, String before) {
        due("all is as before: " + before + " / " + all(x), before.equals(all(x)) ? 1 : 0, 1);
    }

    private static void newObject() {
        MothCustoms x = new MothCustoms();
        int[] rules = {0, 0, 0, 1, 0, 0, 0};
        for (int i = 0; i < 7; i++) due("rule(" + i + ")", x.rule(i), rules[i]);
        piles(x, 1, 1, 1);
        for (int k = 0; k < 3; k++) due("bale(k, 1)", x.bale(k, 1), 0);
        for (int k = 0; k < 4; k++) due("lay(k, 0, 0)", x.lay(k, 0, 0), -11);
        int[] counts = {0, 0, 0, 0, NONE};
        for (int i = 0; i < 5; i++) due("count(" + i + ")", x.count(i), counts[i]);
        due("fault()", x.fault(), 0);
        due("torn()", x.torn(), 0);
        due("back(0)", x.back(0), STATE);
        due("back(1)", x.back(1), STATE);
        due("bolt(0, 0)", x.bolt(0, 0), BAD);
        due("moth(0, 0)", x.moth(0, 0), BAD);
    }

    private static void feed() {
        MothCustoms x = new MothCustoms();
        due("feed(-1)", x.feed(-1), BAD);
        due("feed(128)", x.feed(128), BAD);
        due("feed(0)", x.feed(0), 1);
        due("feed(127)", x.feed(127), 2);
        for (int i = 3; i <= 160; i++) due("feed(32)", x.feed(32), i);
        due("feed(32)", x.feed(32), FULL);
        due("feed(128)", x.feed(128), BAD);
        due("count(3)", x.count(3), 160);
    }

    private static void end() {
        MothCustoms x = new MothCustoms();
        due("end(0)", x.end(0), 0);
        due("end(1)", x.end(1), BAD);
        for (int i = 0; i < 7; i++) x.feed("moon 1;".charAt(i));
        due("end(8)", x.end(8), BAD);
        due("end(-1)", x.end(-1), BAD);
        due("end(FAR)", x.end(FAR), BAD);
        due("end(7)", x.end(7), 7);
        due("end(5)", x.end(5), 7);
        due("end(5)", x.end(5), 5);
        due("feed('3')", x.feed('3'), 6);
        x.feed(';');
        due("text()", x.text(), 1);
        due("rule(2)", x.rule(2), 3);
    }

    private static void text() {
        MothCustoms x = new MothCustoms();
        due("text()", tell(x, MANY), 10);
        due("count(3)", x.count(3), 0);
        piles(x, 1012, 13, 1);
        due("rule(0)", x.rule(0), 4);
        due("rule(1)", x.rule(1), 4);
        x.sheet(2, 0, 1);
        x.read(3, 0, 0, 1);
        x.prick(0);
        x.go(3);
        x.see(0, 1);
        x.ahead(20, 0);
        x.keep(1);
        due("text()", tell(x, "bolt 1 1 1; bolt 1 1;"), -30);
        due("count(3)", x.count(3), 0);
        due("fault()", x.fault(), 2);
        tell(x, "rate;");
        due("seen, night stay", x.count(1) * 10 + x.rule(4), 13);
        due("back(1)", x.back(1), 3);
        due("text()", tell(x, "camphor 0;bolt 5 9 2;bolt 0 0 2;bolt 1 2 0;"), 4);
        due("fault()", x.fault(), 0);
        piles(x, 12, 1, 101);
        int[] rules = {3, 0, 0, 1, 0, 1, 0};
        for (int i = 0; i < 7; i++) due("rule(" + i + ")", x.rule(i), rules[i]);
        due("bolt(0, 2)", x.bolt(0, 2), 0);
        due("count(0)", x.count(0), 0);
        due("count(1)", x.count(1), 0);
        due("count(2)", x.count(2), 0);
        due("back(1)", x.back(1), STATE);
        due("lay(2, 0, 1)", x.lay(2, 0, 1), 1);
        due("torn()", x.torn(), 1);
        due("text()", x.text(), 0);
        due("rule(0)", x.rule(0), 0);
        due("rule(5)", x.rule(5), 0);
        piles(x, 1, 1, 1);
        due("text()", tell(x, "  bolt05 09  2;moon3;rate 9;fat0 0 0 ;"), 4);
        due("bolt(0, 0)", x.bolt(0, 0), 5);
        due("rule(3)", x.rule(3), 9);
        due("text()", tell(x, "   "), 0);
        due("rule(3)", x.rule(3), 1);
        due("text()", tell(x, "plain 5 9 2;plain 1 1 1;plain 2 2 2;fat 0 3 1;"
            + "bolt 1 1 0;bolt 2 2 0;bolt 3 3 0;bolt 4 4 0;bolt 5 5 0;camphor 4;camphor 3;moon 0;rate 1;"), 13);
        due("rule(5)", x.rule(5), 24);
        due("moth(3, 2)", x.moth(3, 2), 3);
        due("text(), 160 bytes", tell(x, " ".repeat(153) + "moon 3;"), 1);
        due("text(), 160 bytes", tell(x, " ".repeat(154) + "moon 3"), -170);
        due("text(), 160 bytes", tell(x, " ".repeat(156) + "moon"), -170);
        for (int i = 0; i < 7; i++) x.feed("moon 12".charAt(i));
        x.end(6);
        due("text(), what was behind the end is not read", x.text(), -16);
        due("fault()", x.fault(), 2);
    }

    private static void faultOf(String text, int fault, int place) {
        MothCustoms x = told(MANY);
        String was = all(x).replaceAll(" \\d+ \\d+$", "");
        due("text() of " + text, tell(x, text), -10 - place);
        due("fault() of " + text, x.fault(), fault);
        due("stays by " + text, all(x).replaceAll(" \\d+ \\d+$", "").equals(was) ? 1 : 0, 1);
    }

    private static void fault() {
        due("fault()", told("moon 1;").fault(), 0);
        faultOf("moon 1;.", 1, 7);
        faultOf(" moon 100;", 1, 6);
        faultOf("123", 1, 0);
        faultOf("moon 123;", 1, 5);
        faultOf("moon 1; Moon 1;", 1, 8);
        faultOf("moon-1;", 1, 4);
        faultOf("moon 1\t;", 1, 6);
        faultOf("moon 1;\n", 1, 7);
        faultOf("`", 1, 0);
        faultOf("{", 1, 0);
        faultOf("/", 1, 0);
        faultOf("rate :", 1, 5);
        faultOf("moons 1;", 2, 0);
        faultOf("moo 1;", 2, 0);
        faultOf("a", 2, 0);
        faultOf("z 1;", 2, 0);
        faultOf("noon 1;", 2, 0);
        faultOf("mool 1;", 2, 0);
        faultOf(";", 2, 0);
        faultOf("moon 1;;", 2, 7);
        faultOf("7", 2, 0);
        faultOf("moon", 2, 4);
        faultOf("moon  ", 2, 6);
        faultOf("moon 1 ", 2, 7);
        faultOf("moon;", 2, 4);
        faultOf("moon rate 1;", 2, 5);
        faultOf("moon 1 1;", 2, 7);
        faultOf("moon 1 moon 1;", 2, 7);
        faultOf("moonrate 1;", 2, 0);
        faultOf("bolt 1 1;", 2, 8);
        faultOf("bolt 1 1 1 1;", 2, 11);
        faultOf("glutton 1 1 1 1;", 2, 14);
        faultOf("bolt 6 1 1;", 3, 5);
        faultOf("bolt 5 10 1;", 3, 7);
        faultOf("bolt 5 9 3;", 3, 9);
        faultOf("fat 6 1 1;", 3, 4);
        faultOf("fat 5 10 1;", 3, 6);
        faultOf("fat 5 9 3;", 3, 8);
        faultOf("camphor 5;", 3, 8);
        faultOf("moon 4;", 3, 5);
        faultOf("rate 0;", 3, 5);
        faultOf("rate 10;", 3, 5);
        faultOf("rate 00 .", 3, 5);
        faultOf("moon 1;moon 1;", 4, 7);
        faultOf("moon 1;moon .", 4, 7);
        faultOf("rate 1; rate 2;", 4, 8);
        faultOf("bolt 0 0 0;camphor 0;camphor 00;", 4, 29);
        faultOf("camphor 3;camphor 3 .", 4, 18);
        faultOf("bolt 0 0 0;bolt 0 0 0;bolt 0 0 0;bolt 0 0 0;bolt 0 0 0; bolt.", 5, 56);
        faultOf("fat 0 0 0;plain 0 0 0;picky 0 0 0;glutton 0 0 0;fat.", 5, 48);
        faultOf("fat 0 0 0;plain 0 0 0;picky 0 0 0;fat 0 0 0;glutton", 5, 44);
        faultOf("camphor 0;", 6, 10);
        faultOf("camphor 1;bolt 0 0 0;  ", 6, 23);
        faultOf("camphor 4;bolt 0 0 0;bolt 0 0 0;bolt 0 0 0;bolt 0 0 0;moon 4;", 3, 59);
        MothCustoms x = new MothCustoms();
        tell(x, "camphor 0;");
        tell(x, "moon 1;");
        due("fault()", x.fault(), 0);
    }

    private static void rule() {
        MothCustoms x = told(MANY + "camphor 1;camphor 3;");
        int[] rules = {4, 4, 1, 2, 0, 10, 0};
        for (int i = 0; i < 7; i++) due("rule(" + i + ")", x.rule(i), rules[i]);
        x.camphor(1, false);
        x.camphor(3, false);
        x.go(1);
        due("rule(4)", x.rule(4), 1);
        due("rule(6)", x.rule(6), 9);
        due("rule(7)", x.rule(7), BAD);
        due("rule(-1)", x.rule(-1), BAD);
        due("rule(6), WOOL 0", told("bolt 0 0 0;").rule(6), 0);
        MothCustoms y = told("bolt 0 1 0;bolt 0 1 0;bolt 0 1 0;bolt 0 1 0;bolt 0 1 0;camphor 4;");
        for (int b = 0; b < 5; b++) y.prick(b);
        due("rule(6)", y.rule(6), 31);
        due("rule(5)", y.rule(5), 16);
        due("moth(0, 5)", told("bolt 0 1 0;bolt 0 1 0;bolt 0 1 0;bolt 0 1 0;bolt 0 1 0;plain 1 0 0;").moth(0, 5), 31);
    }

    private static void bolt() {
        MothCustoms x = told("bolt 5 9 2;bolt 4 8 2;camphor 1;");
        x.prick(1);
        int[] second = {4, 8, 1, 1, 2, 1};
        for (int i = 0; i < 6; i++) due("bolt(1, " + i + ")", x.bolt(1, i), second[i]);
        due("bolt(0, 3)", x.bolt(0, 3), 0);
        due("bolt(0, 5)", x.bolt(0, 5), 0);
        due("bolt(2, 0)", x.bolt(2, 0), BAD);
        due("bolt(-1, 0)", x.bolt(-1, 0), BAD);
        due("bolt(0, 6)", x.bolt(0, 6), BAD);
        due("bolt(0, -1)", x.bolt(0, -1), BAD);
    }

    private static void moth() {
        MothCustoms x = told("bolt 0 1 0;bolt 1 1 0;bolt 2 1 1;bolt 3 1 1;bolt 5 1 2;"
            + "plain 2 3 1;picky 2 0 2;glutton 4 6 0;fat 4 8 0;moon 0;");
        int[][] moths = {{0, 2, 3, 1, 3, 14}, {1, 2, 0, 2, 0, 4}, {2, 4, 6, 0, 12, 31}, {3, 4, 8, 0, 4, 24}};
        for (int m = 0; m < 4; m++) for (int i = 0; i < 6; i++) due("moth(" + m + ", " + i + ")", x.moth(m, i), moths[m][i]);
        x.set(0, 3);
        int[] appetites = {6, 2, 18, 5};
        for (int m = 0; m < 4; m++) due("moth(" + m + ", 4)", x.moth(m, 4), appetites[m]);
        due("moth(4, 0)", x.moth(4, 0), BAD);
        due("moth(-1, 0)", x.moth(-1, 0), BAD);
        due("moth(0, 6)", x.moth(0, 6), BAD);
        due("moth(0, -1)", x.moth(0, -1), BAD);
    }

    private static void bale() {
        MothCustoms x = told(TWO + "rate 3;");
        x.go(2);
        due("bale(0, 0)", x.bale(0, 0), 2);
        due("bale(0, 1)", x.bale(0, 1), 9);
        due("bale(0, 10)", x.bale(0, 10), 0);
        due("bale(0, 11)", x.bale(0, 11), 1);
        due("bale(0, 12)", x.bale(0, 12), NONE);
        due("bale(0, 14)", x.bale(0, 14), NONE);
        due("bale(2, 10)", x.bale(2, 10), NONE);
        due("bale(2, 1)", x.bale(2, 1), 0);
        for (int what : new int[] {2, 9, 15, -1, FAR, LOW}) due("bale(0, " + what + ")", x.bale(0, what), BAD);
        for (int k : new int[] {3, -1}) due("bale(" + k + ", 0)", x.bale(k, 0), BAD);
        // only neighbours meet: 4, 1, 3 holes are 8 less 1 less 1
        MothCustoms y = told("bolt 0 4 1;bolt 0 1 1;bolt 0 3 1;glutton 0 4 1;");
        y.go(1);
        due("bale(1, 1)", y.bale(1, 1), 6);
    }

    private static void fold() {
        MothCustoms x = told("bolt 0 1 0;bolt 0 1 0;bolt 0 1 0;bolt 0 1 1;");
        due("fold(2, 0)", x.fold(2, 0), 3);
        piles(x, 1201, 13, 1);
        due("fold(0, 1)", x.fold(0, 1), 2);
        piles(x, 121, 103, 1);
        due("fold(1, 1)", x.fold(1, 1), 3);
        due("fold(3, 1)", x.fold(3, 1), 3);
        piles(x, 12, 1310, 1);
        due("fold(3, 2)", x.fold(3, 2), 1);
        MothCustoms y = told("bolt 0 1 2;bolt 0 1 2;bolt 0 1 2;bolt 0 1 2;bolt 0 1 2;");
        due("fold(4, 2)", y.fold(4, 2), 5);
        due("fold(0, 2)", y.fold(0, 2), 5);
        piles(y, 1, 1, 104123);
        String before = all(x);
        for (int b : new int[] {4, -1, FAR}) due("fold(" + b + ", 0)", x.fold(b, 0), BAD);
        for (int k : new int[] {3, -1, LOW}) due("fold(0, " + k + ")", x.fold(0, k), BAD);
        unchanged(x, before);
    }

    private static void under() {
        MothCustoms x = told("bolt 0 1 0;bolt 0 1 0;bolt 0 1 0;bolt 0 1 1;");
        due("under(0, 0)", x.under(0, 0), 3);
        piles(x, 1120, 13, 1);
        due("under(2, 1)", x.under(2, 1), 2);
        piles(x, 110, 132, 1);
        due("under(2, 1)", x.under(2, 1), 2);
        piles(x, 110, 132, 1);
        String before = all(x);
        due("under(4, 0)", x.under(4, 0), BAD);
        due("under(-1, 0)", x.under(-1, 0), BAD);
        due("under(0, 3)", x.under(0, 3), BAD);
        due("under(0, -1)", x.under(0, -1), BAD);
        unchanged(x, before);
    }

    private static void swap() {
        MothCustoms x = told("bolt 0 1 0;bolt 0 1 0;bolt 0 1 2;bolt 0 1 2;");
        due("swap(0, 3)", x.swap(0, 3), 2);
        piles(x, 131, 1, 120);
        due("swap(3, 1)", x.swap(3, 1), 0);
        piles(x, 113, 1, 120);
        String before = all(x);
        due("swap(1, 1)", x.swap(1, 1), BAD);
        due("swap(4, 1)", x.swap(4, 1), BAD);
        due("swap(1, 4)", x.swap(1, 4), BAD);
        due("swap(-1, 1)", x.swap(-1, 1), BAD);
        unchanged(x, before);
    }

    private static void camphor() {
        MothCustoms x = told(TWO);
        due("camphor(0, true)", x.camphor(0, true), 0);
        due("camphor(0, true)", x.camphor(0, true), 1);
        due("rule(5)", x.rule(5), 1);
        due("eats(0)", x.eats(0), 0);
        due("camphor(1, true)", x.camphor(1, true), 0);
        due("camphor(0, false)", x.camphor(0, false), 1);
        due("camphor(0, false)", x.camphor(0, false), 0);
        due("rule(5)", x.rule(5), 2);
        due("camphor(2, true)", x.camphor(2, true), BAD);
        due("camphor(-1, true)", x.camphor(-1, true), BAD);
        due("rule(5)", x.rule(5), 2);
        x.set(0, 3);
        due("eats(0), stopped below", x.eats(0), 3);
    }

    private static void patch() {
        MothCustoms x = told(TWO);
        x.go(2);
        due("patch(0, 4)", x.patch(0, 4), STATE);
        due("patch(0, 2)", x.patch(0, 2), 1);
        due("patch(0, 2)", x.patch(0, 2), STATE);
        due("patch(0, 0)", x.patch(0, 0), 1);
        due("patch(0, 1)", x.patch(0, 1), 0);
        due("patch(0, 10)", x.patch(0, 10), BAD);
        due("patch(0, -1)", x.patch(0, -1), BAD);
        due("patch(2, 1)", x.patch(2, 1), BAD);
        due("bolt(0, 2)", x.bolt(0, 2), 0);
        due("bolt(1, 2)", x.bolt(1, 2), 2);
    }

    private static void prick() {
        MothCustoms x = told("bolt 0 2 0;bolt 0 0 0;");
        due("prick(0)", x.prick(0), 1);
        due("prick(0)", x.prick(0), 2);
        due("prick(0)", x.prick(0), FULL);
        due("prick(1)", x.prick(1), FULL);
        due("prick(2)", x.prick(2), BAD);
        due("prick(-1)", x.prick(-1), BAD);
        due("count(0)", x.count(0), 2);
    }

    private static void alter() {
        MothCustoms x = told("plain 1 2 0;picky 3 4 1;");
        int[] was = {1, 3, 4, 1}, most = {3, 5, 9, 2};
        for (int i = 0; i < 4; i++) {
            due("alter(1, " + i + ", most)", x.alter(1, i, most[i]), was[i]);
            due("alter(1, " + i + ", most + 1)", x.alter(1, i, most[i] + 1), BAD);
            due("alter(1, " + i + ", -1)", x.alter(1, i, -1), BAD);
            due("moth(1, " + i + ")", x.moth(1, i), most[i]);
            due("alter(1, " + i + ", 0)", x.alter(1, i, 0), most[i]);
        }
        due("moth(0, 2)", x.moth(0, 2), 2);
        x.alter(0, 3, 1);
        String before = all(x);
        due("alter(2, 0, 0)", x.alter(2, 0, 0), BAD);
        due("alter(-1, 0, 0)", x.alter(-1, 0, 0), BAD);
        due("alter(0, 4, 0)", x.alter(0, 4, 0), BAD);
        due("alter(0, -1, 0)", x.alter(0, -1, 0), BAD);
        unchanged(x, before);
    }

    private static void set() {
        MothCustoms x = new MothCustoms();
        due("set(0, 3)", x.set(0, 3), 0);
        due("set(0, 0)", x.set(0, 0), 3);
        due("set(0, 2)", x.set(0, 2), 0);
        due("set(1, 9)", x.set(1, 9), 1);
        due("set(1, 1)", x.set(1, 1), 9);
        due("set(1, 4)", x.set(1, 4), 1);
        int[][] bad = {{0, 4}, {0, -1}, {1, 0}, {1, 10}, {2, 1}, {-1, 1}};
        for (int[] p : bad) due("set(" + p[0] + ", " + p[1] + ")", x.set(p[0], p[1]), BAD);
        due("rule(2)", x.rule(2), 2);
        due("rule(3)", x.rule(3), 4);
    }

    private static void go() {
        MothCustoms x = told(TWO);
        due("go(0)", x.go(0), 0);
        due("go(1)", x.go(1), 2);
        due("rule(2)", x.rule(2), 1);
        due("go(2)", x.go(2), 6);
        due("bolt(1, 2)", x.bolt(1, 2), 6);
        due("go(1)", x.go(1), 9);
        due("rule(2)", x.rule(2), 0);
        due("rule(4)", x.rule(4), 4);
        due("go(21)", x.go(21), BAD);
        due("go(-1)", x.go(-1), BAD);
        for (int i = 0; i < 49; i++) x.go(20);
        due("rule(4)", x.rule(4), 984);
        due("go(16)", x.go(16), FULL);
        due("go(15)", x.go(15), 9);
        due("go(1)", x.go(1), FULL);
        due("go(21)", x.go(21), BAD);
        due("go(0)", x.go(0), 9);
        due("rule(4)", x.rule(4), 999);
        due("rule(2)", x.rule(2), 3);
        due("ahead(20, 0)", x.ahead(20, 0), 9);
        // by order: the first moth leaves 1 for the second; the third can't pass the camphor below
        MothCustoms y = told("bolt 1 4 0;bolt 5 9 0;bolt 1 9 0;bolt 1 9 0;camphor 2;plain 2 3 0;fat 0 6 0;picky 5 4 0;");
        due("go(1)", y.go(1), 4);
        int[] holes = {4, 3, 0, 0};
        for (int b = 0; b < 4; b++) due("bolt(" + b + ", 2)", y.bolt(b, 2), holes[b]);
    }

    private static void ahead() {
        MothCustoms x = told(TWO);
        String before = all(x);
        int[][] nights = {{0, 0, 0}, {2, 2, 0}, {3, 5, 1}, {6, 9, 1}, {9, 12, 3}, {9, 12, 3}};
        for (int n = 0; n < 6; n++) for (int i = 0; i < 3; i++) due("ahead(" + n + ", " + i + ")", x.ahead(n, i), nights[n][i]);
        due("ahead(20, 1)", x.ahead(20, 1), 12);
        int[][] bad = {{21, 0}, {-1, 0}, {0, 3}, {0, -1}};
        for (int[] p : bad) due("ahead(" + p[0] + ", " + p[1] + ")", x.ahead(p[0], p[1]), BAD);
        unchanged(x, before);
    }

    private static void when() {
        MothCustoms x = told(TWO + "bolt 0 0 0;bolt 0 1 1;bolt 0 9 2;");
        due("when(0)", x.when(0), 2);
        due("when(1)", x.when(1), 4);
        due("when(2), no WOOL", x.when(2), NONE);
        due("when(3)", x.when(3), NONE);
        x.prick(3);
        due("when(3)", x.when(3), 0);
        due("when(5)", x.when(5), BAD);
        due("when(-1)", x.when(-1), BAD);
        due("rule(4)", x.rule(4), 0);
        // a picky one of HUNGER 0 eats 0, 0, 1, 2 by the moons: 30 holes by 40 nights
        MothCustoms y = told("bolt 0 9 0;bolt 0 9 0;bolt 0 9 0;bolt 0 3 0;bolt 0 1 0;picky 0 0 0;");
        due("when(3)", y.when(3), 40);
        due("when(4)", y.when(4), NONE);
        due("when(2)", y.when(2), 36);
    }

    private static void eats() {
        MothCustoms x = told(MANY);
        String before = all(x);
        int[] eaten = {4, 4, 3, 3};
        for (int m = 0; m < 4; m++) due("eats(" + m + ")", x.eats(m), eaten[m]);
        x.patch(0, 0);
        due("eats(4)", x.eats(4), BAD);
        due("eats(-1)", x.eats(-1), BAD);
        unchanged(x, before);
        x.prick(3);
        due("eats(2)", x.eats(2), 2);
    }

    private static void duty() {
        MothCustoms x = told(MANY);
        due("duty(0)", x.duty(0), 0);
        due("duty(1)", x.duty(1), 22);
        x.go(1);
        due("duty(0)", x.duty(0), 16);
        due("duty(2)", x.duty(2), BAD);
        due("duty(-1)", x.duty(-1), BAD);
        due("rule(4)", x.rule(4), 1);
    }

    private static void best() {
        MothCustoms x = told(MANY);
        String before = all(x);
        int[] codes = {20, 10, 21, 22};
        due("best(0)", x.best(0), 0);
        for (int b = 0; b < 4; b++) due("best(1" + b + ")", x.best(10 + b), codes[b]);
        for (int what : new int[] {14, 15, 1, 9, -1, FAR, LOW}) due("best(" + what + ")", x.best(what), BAD);
        unchanged(x, before);
        due("best(0), no BOLTS", new MothCustoms().best(0), 0);
        due("best(10), no BOLTS", new MothCustoms().best(10), BAD);
        // APPETITE 8 everywhere: apart 8 and 1, as told 8 and 0, the other way round 1 and 7, of which 1 meets
        MothCustoms y = told("bolt 0 9 0;bolt 0 1 0;glutton 0 4 0;glutton 0 4 1;glutton 0 4 2;");
        due("best(0)", y.best(0), 7);
        due("best(10)", y.best(10), 1);
        due("best(11)", y.best(11), 0);
        MothCustoms z = told("bolt 0 9 0;bolt 0 9 0;camphor 1;plain 0 5 0;plain 0 5 1;plain 0 5 2;");
        due("best(0)", z.best(0), 0);
        due("best(10)", z.best(10), 1);
        due("best(11)", z.best(11), 0);
        MothCustoms last = told("bolt 0 1 0;plain 0 1 0;plain 0 1 1;");
        due("best(0), only the last way", last.best(0), 0);
        due("best(10)", last.best(10), 20);
        MothCustoms five = told("bolt 0 2 2;bolt 0 2 2;bolt 0 2 2;bolt 0 2 2;bolt 0 2 2;glutton 0 9 0;glutton 0 9 1;glutton 0 9 2;");
        due("best(0), five alike", five.best(0), 2);
        for (int b = 0; b < 5; b++) due("best(1" + b + ")", five.best(10 + b), b);
    }

    private static void guard() {
        MothCustoms x = told(MANY);
        String before = all(x);
        due("guard(0)", x.guard(0), 0);
        due("guard(1)", x.guard(1), 6);
        due("guard(2)", x.guard(2), BAD);
        due("guard(-1)", x.guard(-1), BAD);
        unchanged(x, before);
        MothCustoms y = told("bolt 0 9 0;bolt 0 9 0;bolt 0 9 1;bolt 0 9 2;plain 0 4 1;plain 0 4 2;");
        due("guard(0), the first of two", y.guard(0), 2);
        due("guard(1)", y.guard(1), 4);
        y.camphor(2, true);
        due("guard(0), one has it", y.guard(0), 3);
        due("guard(1)", y.guard(1), 0);
        y.camphor(3, true);
        due("guard(0)", y.guard(0), NONE);
        due("guard(1)", y.guard(1), NONE);
        due("guard(2)", y.guard(2), BAD);
        // without its camphor the middle one's holes would meet those of both others: that is not asked
        MothCustoms z = told("bolt 0 3 0;bolt 5 3 0;bolt 0 3 0;camphor 1;plain 5 3 0;");
        for (int i = 0; i < 3; i++) z.prick(0);
        for (int i = 0; i < 3; i++) z.prick(2);
        due("guard(0)", z.guard(0), NONE);
    }

    private static void send() {
        MothCustoms x = told(MANY);
        String before = all(x);
        due("send(0, 0)", x.send(0, 0), 0);
        due("send(0, 1)", x.send(0, 1), 16);
        due("send(3, 1)", x.send(3, 1), 20);
        due("send(3, 0)", x.send(3, 0), 0);
        int[][] bad = {{4, 0}, {-1, 0}, {0, 2}, {0, -1}};
        for (int[] p : bad) due("send(" + p[0] + ", " + p[1] + ")", x.send(p[0], p[1]), BAD);
        unchanged(x, before);
        MothCustoms y = told("bolt 0 2 0;bolt 0 5 1;bolt 0 5 2;plain 0 6 0;");
        due("send(0, 0), the first of two", y.send(0, 0), 1);
        due("send(0, 1)", y.send(0, 1), 5);
        due("send(0, 1), no BOLTS", told("plain 0 9 2;").send(0, 1), 0);
        due("send(0, 0), no BOLTS", told("plain 0 9 2;").send(0, 0), 0);
    }

    private static void raise() {
        MothCustoms x = told(MANY);
        String before = all(x);
        due("raise(0)", x.raise(0), 1);
        due("raise(1)", x.raise(1), 14);
        due("raise(2)", x.raise(2), BAD);
        due("raise(-1)", x.raise(-1), BAD);
        unchanged(x, before);
        MothCustoms y = told("bolt 0 9 1;bolt 0 3 1;bolt 5 3 1;bolt 0 3 1;plain 0 7 1;");
        due("raise(0), none is less", y.raise(0), 1);
        due("raise(1)", y.raise(1), 4);
        due("raise(0)", told("bolt 0 9 1;bolt 0 9 1;plain 0 7 1;").raise(0), NONE);
        due("raise(1)", told("bolt 0 9 1;bolt 0 9 1;plain 0 7 1;").raise(1), NONE);
        due("raise(0), no BOLTS", told("plain 0 7 1;").raise(0), NONE);
        MothCustoms five = told("bolt 0 9 0;bolt 5 9 0;bolt 5 9 0;bolt 5 9 0;bolt 0 2 0;plain 0 7 0;");
        due("raise(0), five", five.raise(0), 4);
        due("raise(1), five", five.raise(1), 5);
    }

    private static void fraction(String call, long top, long bottom, long dueTop, long dueBottom) {
        due(call + " above", top, dueTop);
        due(call + " below", bottom, dueBottom);
    }

    private static void mean() {
        MothCustoms x = told("bolt 0 4 0;plain 0 2 0;plain 0 3 0;");
        String before = all(x);
        fraction("mean(3)", x.mean(3, 0), x.mean(3, 1), 141, 100);
        fraction("mean(0)", x.mean(0, 0), x.mean(0, 1), 0, 1);
        fraction("mean(10)", x.mean(10, 0), x.mean(10, 1), 4, 1);
        int[][] bad = {{11, 0}, {-1, 0}, {0, 2}, {0, -1}};
        for (int[] p : bad) due("mean(" + p[0] + ", " + p[1] + ")", x.mean(p[0], p[1]), BAD);
        unchanged(x, before);
        x.set(1, 2);
        fraction("mean(3), RATE 2", x.mean(3, 0), x.mean(3, 1), 141, 50);
        MothCustoms still = told("bolt 0 4 0;");
        still.prick(0);
        fraction("mean(3), no MOTHS", still.mean(3, 0), still.mean(3, 1), 1, 1);
    }

    private static void luck() {
        MothCustoms x = told("bolt 0 4 0;bolt 0 1 1;plain 0 2 0;plain 0 3 0;");
        String before = all(x);
        fraction("luck(3, 0)", x.luck(3, 0, 0), x.luck(3, 0, 1), 9, 100);
        fraction("luck(10, 0)", x.luck(10, 0, 0), x.luck(10, 0, 1), 1, 1);
        fraction("luck(0, 0)", x.luck(0, 0, 0), x.luck(0, 0, 1), 0, 1);
        fraction("luck(5, 1)", x.luck(5, 1, 0), x.luck(5, 1, 1), 0, 1);
        int[][] bad = {{11, 0, 0}, {-1, 0, 0}, {5, 2, 0}, {5, -1, 0}, {5, 0, 2}, {5, 0, -1}};
        for (int[] p : bad) due("luck(" + p[0] + ", " + p[1] + ", " + p[2] + ")", x.luck(p[0], p[1], p[2]), BAD);
        unchanged(x, before);
        x.prick(1);
        fraction("luck(0, 1)", x.luck(0, 1, 0), x.luck(0, 1, 1), 1, 1);
        x.prick(0);
        fraction("luck(4, 0)", x.luck(4, 0, 0), x.luck(4, 0, 1), 2, 5);
    }

    private static void see() {
        MothCustoms x = told(TWO);
        due("see(0, 10)", x.see(0, 10), BAD);
        due("see(0, -1)", x.see(0, -1), BAD);
        due("see(2, 0)", x.see(2, 0), BAD);
        due("see(-1, 0)", x.see(-1, 0), BAD);
        for (int i = 1; i <= 6; i++) due("see(1, 9)", x.see(1, 9), i);
        due("see(1, 9)", x.see(1, 9), FULL);
        due("see(2, 9)", x.see(2, 9), BAD);
        due("count(1)", x.count(1), 6);
    }

    private static void forget() {
        MothCustoms x = told(TWO);
        x.see(0, 2);
        x.see(0, 3);
        due("bought()", x.bought(), 0);
        due("forget(3)", x.forget(3), BAD);
        due("forget(-1)", x.forget(-1), BAD);
        due("forget(2)", x.forget(2), 2);
        due("forget(1)", x.forget(1), 2);
        due("tastes(0)", x.tastes(0), 3);
        due("forget(0)", x.forget(0), 1);
        due("forget(0)", x.forget(0), 0);
        due("forget(1)", x.forget(1), BAD);
    }

    private static void tastes() {
        MothCustoms x = told("bolt 2 9 0;plain 5 3 0;");
        String before = all(x);
        due("tastes(0), nothing SEEN", x.tastes(0), 63);
        unchanged(x, before);
        x.see(0, 3);
        due("tastes(0)", x.tastes(0), 14);
        x.forget(0);
        x.see(0, 0);
        due("tastes(0)", x.tastes(0), 49);
        x.alter(0, 0, 2);
        due("tastes(0), a glutton", x.tastes(0), 0);
        x.forget(0);
        x.see(0, 2);
        x.alter(0, 0, 1);
        due("tastes(0), a picky one", x.tastes(0), 4);
        due("tastes(1)", x.tastes(1), BAD);
        due("tastes(-1)", x.tastes(-1), BAD);
    }

    private static void bought() {
        MothCustoms x = told("bolt 0 9 0;plain 0 2 0;plain 0 3 0;plain 0 2 1;");
        due("bought(), nothing SEEN", x.bought(), 7);
        x.see(0, 3);
        due("bought()", x.bought(), 1);
        x.forget(0);
        x.see(0, 5);
        due("bought()", x.bought(), 4);
        x.forget(0);
        x.see(0, 0);
        due("bought()", x.bought(), 0);
        due("bought(), no MOTHS", new MothCustoms().bought(), 0);
        due("count(0)", x.count(0), 0);
    }

    private static void pricked() {
        MothCustoms x = told("bolt 0 3 0;bolt 0 0 0;bolt 0 5 1;plain 0 1 0;");
        due("pricked(0), nothing SEEN", x.pricked(0), 8);
        due("pricked(1), nothing SEEN", x.pricked(1), 0);
        x.see(0, 2);
        due("pricked(0)", x.pricked(0), 4);
        due("pricked(1)", x.pricked(1), 1);
        x.see(2, 1);
        due("pricked(0)", x.pricked(0), 2);
        due("pricked(1)", x.pricked(1), 5);
        x.see(1, 1);
        due("pricked(0)", x.pricked(0), 0);
        due("pricked(1)", x.pricked(1), NONE);
        due("pricked(2)", x.pricked(2), BAD);
        due("pricked(-1)", x.pricked(-1), BAD);
        due("pricked(0), no BOLTS", new MothCustoms().pricked(0), 1);
        due("pricked(1), no BOLTS", new MothCustoms().pricked(1), 0);
    }

    private static void lain() {
        MothCustoms x = told("bolt 0 2 0;bolt 0 3 0;bolt 0 4 0;plain 0 4 0;bolt 0 1 2;");
        due("lain(0), nothing SEEN", x.lain(0), 7);
        due("lain(1)", x.lain(1), 0);
        due("lain(2)", x.lain(2), 8);
        int[][] seen = {{2, 4, 4}, {2, 2, 1}, {2, 0, 3}, {2, 1, 2}, {2, 3, 0}, {0, 2, 1}, {0, 1, 2}, {0, 0, 6}};
        for (int[] s : seen) {
            x.forget(0);
            x.see(s[0], s[1]);
            due("lain(0) by " + s[0] + " " + s[1], x.lain(0), s[2]);
        }
        due("lain(3)", x.lain(3), BAD);
        due("lain(-1)", x.lain(-1), BAD);
        piles(x, 1012, 1, 13);
    }

    private static void drift() {
        MothCustoms x = told(MANY);
        String before = all(x);
        due("drift(7, 4, 0)", x.drift(7, 4, 0), 28);
        due("drift(7, 4, 1)", x.drift(7, 4, 1), 18);
        unchanged(x, before);
        int[][] bad = {{7, 0, 0}, {7, 21, 0}, {7, -1, 0}, {7, 1, 2}, {7, 1, -1}};
        for (int[] p : bad) due("drift(7, " + p[1] + ", " + p[2] + ")", x.drift(p[0], p[1], p[2]), BAD);
        due("drift(7, 1, 0), no BOLTS", new MothCustoms().drift(7, 1, 0), STATE);
        due("drift(7, 0, 0), no BOLTS", new MothCustoms().drift(7, 0, 0), BAD);
        // seed 0: bits 0, bolt 0 on bale 0; seed 7: bits 19564, bolt 0 on bale 1
        MothCustoms y = told("bolt 0 5 0;bolt 0 7 0;plain 0 3 1;");
        due("drift(0, 1, 0)", y.drift(0, 1, 0), 0);
        due("drift(7, 1, 0)", y.drift(7, 1, 0), 3);
        due("drift(7, 1, 1), one BOLT", told("bolt 0 5 0;plain 0 3 1;").drift(7, 1, 1), 3);
    }

    private static void keep() {
        MothCustoms x = told(MANY + "camphor 2;");
        x.see(0, 5);
        x.fold(2, 2);
        x.go(2);
        due("keep(0)", x.keep(0), 0);
        due("keep(0)", x.keep(0), 1);
        due("keep(1)", x.keep(1), 0);
        String before = all(x);
        x.go(1);
        x.swap(0, 3);
        x.set(1, 7);
        x.camphor(0, true);
        x.alter(0, 1, 0);
        x.patch(1, 1);
        x.see(1, 1);
        due("back(0)", x.back(0), 2);
        unchanged(x, before);
        due("tastes(2)", x.tastes(2), 63);
        due("keep(2)", x.keep(2), BAD);
        due("keep(-1)", x.keep(-1), BAD);
    }

    private static void back() {
        MothCustoms x = told(TWO);
        due("back(0)", x.back(0), STATE);
        due("back(2)", x.back(2), BAD);
        due("back(-1)", x.back(-1), BAD);
        x.keep(0);
        x.go(3);
        x.keep(1);
        due("back(0)", x.back(0), 0);
        due("duty(0)", x.duty(0), 0);
        x.see(0, 0);
        due("back(1)", x.back(1), 3);
        due("duty(0)", x.duty(0), 6);
        due("count(1)", x.count(1), 0);
        due("back(1)", x.back(1), 3);
        due("count(2)", x.count(2), 2);
        x.feed(32);
        x.sheet(0, 0, 3);
        x.back(0);
        due("count(3), the tape is no part", x.count(3), 1);
        due("count(4), sheets neither", x.count(4), 3);
        x.text();
        due("back(0), gone", x.back(0), STATE);
    }

    private static void sheet() {
        MothCustoms x = new MothCustoms();
        due("sheet(0, 0, 0)", x.sheet(0, 0, 0), 1);
        due("count(4)", x.count(4), 0);
        due("lay(0, 0, 1)", x.lay(0, 0, 1), -12);
        due("sheet(0, 2, 40)", x.sheet(0, 2, 40), 1);
        due("sheet(3, 1, 5)", x.sheet(3, 1, 5), 1);
        int[][] bad = {{4, 0, 0}, {-1, 0, 0}, {0, 3, 0}, {0, -1, 0}, {0, 0, 41}, {4, 0, -1}, {0, 3, -1}};
        for (int[] p : bad) due("sheet(" + p[0] + ", " + p[1] + ", " + p[2] + ")", x.sheet(p[0], p[1], p[2]), BAD);
        due("sheet(0, 0, -1)", x.sheet(0, 0, -1), -14);
        due("sheet(0, 0, LOW)", x.sheet(0, 0, LOW), -14);
        due("count(4)", x.count(4), 40);
        MothCustoms y = told("bolt 0 1 0;bolt 0 1 0;");
        y.sheet(1, 0, 2);
        y.lay(1, 0, 1);
        y.lay(1, 1, 2);
        y.sheet(1, 1, 2);
        due("read of a new row", y.read(1, 1, 0, 1), 1);
        piles(y, 101, 1, 1);
    }

    private static void lay() {
        MothCustoms x = told("bolt 0 1 0;bolt 0 1 0;");
        due("lay(0, 0, 1)", x.lay(0, 0, 1), -11);
        due("lay(4, 0, 1)", x.lay(4, 0, 1), BAD);
        due("lay(-1, 0, 1)", x.lay(-1, 0, 1), BAD);
        for (int lane = 0; lane < 3; lane++) {
            x.sheet(lane, lane, 2);
            due("lay(lane, 2, 1)", x.lay(lane, 2, 1), -12);
            due("lay(lane, -1, 1)", x.lay(lane, -1, 1), -12);
            due("lay(lane, 0, 1)", x.lay(lane, 0, 1), 1);
        }
        int[][] laid = {{0, 256, 1}, {0, 255, -20}, {0, 511, -20}, {1, 65536, 1}, {1, 256, -20}, {1, 32768, -20},
            {1, 65537, 1}, {2, 65536, -20}, {2, 1, 1}, {2, -1, -20}, {2, LOW, -20}};
        for (int[] p : laid) {
            due("lay(" + p[0] + ", 1, " + p[1] + ")", x.lay(p[0], 1, p[1]), 1);
            due("read behind it", x.read(p[0], p[0], 0, 1), p[2]);
        }
    }

    private static void read() {
        MothCustoms x = told("bolt 0 1 0;bolt 0 1 0;bolt 0 1 0;");
        x.sheet(0, 0, 7);
        int[] cells = {2, 1, 1, 1, 2, 1, 9};
        for (int i = 0; i < 7; i++) x.lay(0, i, cells[i]);
        due("read(0, 0, 0, 3)", x.read(0, 0, 0, 3), 3);
        piles(x, 10, 121, 1);
        due("torn()", x.torn(), 0);
        due("read(0, 0, 2, 3), the third is not whole", x.read(0, 0, 2, 3), 2);
        piles(x, 10, 121, 1);
        due("torn()", x.torn(), 2);
        due("read(0, 0, 3, 1)", x.read(0, 0, 3, 1), 1);
        piles(x, 10, 12, 11);
        due("torn()", x.torn(), 0);
        String before = all(x);
        due("read(0, 0, 3, 2), the second is refused", x.read(0, 0, 3, 2), -21);
        x.lay(0, 0, 3);
        due("read(0, 0, 0, 3)", x.read(0, 0, 0, 3), -20);
        int[][] bad = {{4, 0, 0, 0}, {-1, 0, 0, 0}, {0, 3, 0, 0}, {0, -1, 0, 0}, {0, 0, 0, 21}, {0, 0, 0, -1}};
        for (int[] p : bad) due("read(" + p[0] + ", " + p[1] + ", 0, " + p[3] + ")", x.read(p[0], p[1], p[2], p[3]), BAD);
        unchanged(x, before);
        for (int f : new int[] {-1, -2, LOW, FAR, FAR - 1, 7, 6}) {
            due("read(0, 0, " + f + ", 20)", x.read(0, 0, f, 20), 0);
            due("torn()", x.torn(), 2);
        }
        due("read(0, 1, 0, 1)", x.read(0, 1, 0, 1), 0);
        due("torn()", x.torn(), 3);
        due("read(1, 1, 0, 1)", x.read(1, 1, 0, 1), 0);
        due("torn()", x.torn(), 1);
        due("read(1, 1, 0, 0), nothing", x.read(1, 1, 0, 0), 0);
        due("torn()", x.torn(), 0);
        due("read(0, 1, -9, 0), another lane", x.read(0, 1, -9, 0), 0);
        due("torn()", x.torn(), 0);
        MothCustoms y = told("bolt 0 1 0;");
        y.sheet(3, 2, 40);
        due("read(3, 2, 0, 20)", y.read(3, 2, 0, 20), 20);
        due("read(3, 2, 1, 20)", y.read(3, 2, 1, 20), 19);
        due("torn()", y.torn(), 2);
    }

    private static void torn() {
        MothCustoms x = told("bolt 0 1 0;");
        x.read(2, 0, 0, 1);
        due("torn()", x.torn(), 1);
        due("read(2, 0, 0, 21)", x.read(2, 0, 0, 21), BAD);
        due("torn()", x.torn(), 1);
        x.sheet(2, 0, 1);
        x.read(2, 0, 0, 1);
        due("torn()", x.torn(), 2);
        x.read(2, 2, 0, 1);
        due("torn()", x.torn(), 3);
        x.sheet(2, 0, 2);
        x.lay(2, 0, 1);
        due("read(2, 0, 0, 1)", x.read(2, 0, 0, 1), -20);
        due("torn()", x.torn(), 3);
        x.lay(2, 0, 0);
        due("read(2, 0, 0, 1)", x.read(2, 0, 0, 1), 1);
        due("torn()", x.torn(), 0);
    }

    private static void count() {
        MothCustoms x = told(TWO);
        x.go(2);
        due("count(0)", x.count(0), 5);
        x.see(0, 0);
        x.see(0, 0);
        due("count(1)", x.count(1), 2);
        x.keep(1);
        due("count(2)", x.count(2), 1);
        x.feed(32);
        due("count(3)", x.count(3), 1);
        due("count(4)", x.count(4), NONE);
        x.sheet(1, 0, 4);
        due("count(4)", x.count(4), NONE);
        x.sheet(0, 0, 4);
        due("count(4)", x.count(4), 4);
        due("count(5)", x.count(5), BAD);
        due("count(-1)", x.count(-1), BAD);
    }

    private static void first() {
        promise = "1"; newObject();
        promise = "2"; feed();
        promise = "3"; end();
        promise = "4"; text();
        promise = "5"; fault();
        promise = "6"; rule();
        promise = "7"; bolt();
        promise = "8"; moth();
        promise = "9"; bale();
        promise = "10"; fold();
        promise = "11"; under();
        promise = "12"; swap();
        promise = "13"; camphor();
        promise = "14"; patch();
        promise = "15"; prick();
        promise = "16"; alter();
        promise = "17"; set();
        promise = "18"; go();
        promise = "19"; ahead();
        promise = "20"; when();
        promise = "21"; eats();
    }

    private static void second() {
        promise = "22"; duty();
        promise = "23"; best();
        promise = "24"; guard();
        promise = "25"; send();
        promise = "26"; raise();
        promise = "27"; mean();
        promise = "28"; luck();
        promise = "29"; see();
        promise = "30"; forget();
        promise = "31"; tastes();
        promise = "32"; bought();
        promise = "33"; pricked();
        promise = "34"; lain();
        promise = "35"; drift();
        promise = "36"; keep();
        promise = "37"; back();
        promise = "38"; sheet();
        promise = "39"; lay();
        promise = "40"; read();
        promise = "41"; torn();
        promise = "42"; count();
    }

    public static void main(String[] args) {
        first();
        second();
        System.out.println("promises: " + passed + " passed, " + failed + " failed");
        if (failed > 0) System.exit(1);
    }
}
