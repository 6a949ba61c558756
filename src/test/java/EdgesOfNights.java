/** Promises 18 to 28: nights, what is best, odds. */
final class EdgesOfNights extends Edges {
    private static final String FIVE_ALIKE = "bolt 0 9 0;bolt 0 9 0;bolt 0 9 0;bolt 0 9 0;bolt 0 9 0;";
    private static final String FOUR_OF_ONE = "plain 0 1 0;plain 0 1 0;plain 0 1 0;plain 0 1 0;";

    @Override
    void tests() {
        night();
        moon();
        go();
        ahead();
        when();
        whenForty();
        eats();
        duty();
        best();
        bestOfSeveral();
        bestOfFive();
        guard();
        send();
        raise();
        mean();
        luck();
    }

    private static Run of(String text) {
        Run r = new Run();
        holds("'" + text + "' is taken", r.tell(text) >= 0);
        return r;
    }

    /** HOLES of the BOLTS by order behind one NIGHT of what the text tells. */
    private static void eaten(String text, int... holes) {
        Run r = of(text);
        r.call("go", 1);
        for (int b = 0; b < holes.length; b++) due(r, holes[b], "bolt", b, 2);
    }

    private void night() {
        says(18, "A NIGHT: MOTHS by order, each goes down through its BALE, from the top, as far as it has APPETITE left:");
        eaten("bolt 0 3 0;bolt 5 9 0;glutton 0 1 0;picky 0 3 0;", 3, 0);
        eaten("bolt 0 3 0;bolt 5 9 0;picky 0 3 0;glutton 0 1 0;", 3, 1);
        eaten("bolt 0 2 0;bolt 0 2 0;bolt 0 2 0;plain 0 3 0;", 2, 1, 0);
        eaten("bolt 0 2 0;bolt 0 2 0;plain 0 2 0;", 2, 0);
        eaten("bolt 0 2 0;plain 0 0 0;", 0);
        eaten("bolt 0 2 0;bolt 0 2 1;bolt 0 2 2;plain 0 1 1;", 0, 1, 0);
        eaten(FIVE_ALIKE + "glutton 0 9 0;glutton 0 9 0;glutton 0 4 0;", 9, 9, 9, 9, 8);
        eaten(FIVE_ALIKE + "glutton 0 9 0;glutton 0 9 0;glutton 0 9 0;glutton 0 9 0;", 9, 9, 9, 9, 9);
        says(18, "one with CAMPHOR stops it there for good;");
        eaten("bolt 0 2 0;bolt 0 9 0;plain 0 9 0;camphor 0;", 0, 0);
        eaten("bolt 0 2 0;bolt 0 9 0;bolt 0 9 0;plain 0 9 0;camphor 1;", 2, 0, 0);
        eaten("bolt 0 2 0;bolt 0 9 0;plain 0 9 0;camphor 1;", 2, 0);
        eaten("bolt 0 2 0;bolt 5 9 0;bolt 0 9 0;plain 0 9 0;camphor 1;", 2, 0, 0);
        eaten("bolt 0 0 0;bolt 0 9 0;glutton 0 9 0;camphor 0;", 0, 0);
        eaten("bolt 0 2 1;bolt 0 9 0;plain 0 9 0;camphor 0;", 0, 9);
        says(18, "in one that it LIKES it eats: HOLES are more by what APPETITE is left, no more than WOOL; by so much APPETITE is less; "
            + "through others it goes.");
        eaten("bolt 0 9 0;plain 0 8 0;", 8);
        eaten("bolt 0 9 0;plain 0 9 0;", 9);
        eaten("bolt 0 8 0;plain 0 9 0;", 8);
        eaten("bolt 0 8 0;bolt 5 9 0;bolt 0 9 0;plain 0 9 0;", 8, 0, 1);
        eaten("bolt 0 0 0;bolt 2 9 0;bolt 1 9 0;plain 0 5 0;", 0, 0, 5);
        eaten("bolt 0 2 0;bolt 0 2 0;bolt 0 2 0;plain 0 2 0;plain 0 3 0;", 2, 2, 1);
        eaten("bolt 1 9 0;bolt 0 9 0;picky 0 5 0;", 0, 4);
        eaten("bolt 3 9 0;bolt 4 9 0;fat 5 9 0;", 0, 4);
    }

    private void moon() {
        says(18, "MOON is 1 more (modulo 4), NIGHT 1 more.");
        Run r = of("bolt 0 9 0;bolt 0 9 0;plain 0 0 0;");
        // by MOON 0, 1, 2, 3 it eats as many; behind 3 comes 0
        int[] holes = {0, 1, 3, 6, 6, 7, 9, 12};
        for (int n = 1; n <= 8; n++) {
            r.call("go", 1);
            due(r, n % 4, "rule", 2);
            due(r, n, "rule", 4);
            due(r, holes[n - 1], "count", 0);
        }
        Run three = of("moon 3;");
        due(three, 0, "go", 1);
        due(three, 0, "rule", 2);
        due(three, 1, "rule", 4);
        due(three, 0, "go", 3);
        due(three, 3, "rule", 2);
        due(three, 3, "set", 0, 0);
        due(three, 4, "rule", 4);
    }

    private void go() {
        says(18, "n NIGHTS go (0 to 20): DUTY of all then.");
        Run r = of("bolt 0 9 0;bolt 0 9 1;plain 0 1 0;picky 0 2 1;rate 9;");
        due(r, 0, "go", 0);
        due(r, 0, "rule", 4);
        due(r, 18, "go", 1);
        due(r, 162, "go", 20);
        due(r, 21, "rule", 4);
        due(r, 1, "rule", 2);
        leaves(12, State.SOME, "go", 0);
        due(State.SOME.made(), 21, "go", 1);
        due(State.EMPTY.made(), 0, "go", 20);
        says(18, "BAD; FULL: NIGHT would be 1000 or more.");
        bounds("go", within(0, 20));
        leaves(243, State.FULL, "go", 0);
        leaves(FULL, State.FULL, "go", 1);
        leaves(FULL, State.FULL, "go", 20);
        Run late = new Run();
        for (int i = 0; i < 49; i++) due(late, 0, "go", 20);
        due(late, FULL, "go", 20);
        due(late, 980, "rule", 4);
        due(late, 0, "rule", 2);
        due(late, 0, "go", 19);
        due(late, 999, "rule", 4);
        due(late, FULL, "go", 1);
        due(late, 3, "rule", 2);
        due(late, 0, "go", 0);
        Run one = new Run();
        for (int i = 0; i < 49; i++) one.call("go", 20);
        due(one, 0, "go", 18);
        due(one, FULL, "go", 2);
        due(one, 0, "go", 1);
        due(one, FULL, "go", 2);
        due(one, 999, "rule", 4);
    }

    private void ahead() {
        says(19, "Behind n NIGHTS (0 to 20): DUTY of all (what 0), all HOLES (1), which are EATEN UP (2; bits).");
        // behind 0, 1 and 20 NIGHTS
        int[][] some = {{12, 6, 1}, {21, 9, 5}, {21, 9, 5}};
        int[] nights = {0, 1, 20};
        for (int i = 0; i < 3; i++) for (int what = 0; what < 3; what++) {
            leaves(0, State.EMPTY, "ahead", nights[i], what);
            leaves(some[i][what], State.SOME, "ahead", nights[i], what);
        }
        // NIGHT would be 1000 or more: that is not asked
        int[] full = {243, 36, 27};
        for (int n : new int[] {0, 1, 19, 20}) for (int what = 0; what < 3; what++) leaves(full[what], State.FULL, "ahead", n, what);
        Run r = of("bolt 0 9 0;bolt 0 9 0;bolt 0 9 0;bolt 0 9 0;picky 0 0 0;");
        // 0, 0, 1, 2 by MOONS: 15 behind 20 NIGHTS, 13 behind 19
        due(r, 15, "ahead", 20, 1);
        due(r, 13, "ahead", 19, 1);
        due(r, 9, "ahead", 20, 0);
        due(r, 1, "ahead", 20, 2);
        says(19, "BAD.");
        bounds("ahead", within(0, 20), within(0, 2));
    }

    private void when() {
        says(20, "Behind how many NIGHTS (0 to 40) a BOLT first is EATEN UP. BAD; NONE: behind none.");
        Run r = of("bolt 0 3 0;bolt 0 9 0;bolt 0 0 0;bolt 0 1 1;plain 0 2 0;");
        due(r, 2, "when", 0);
        due(r, 4, "when", 1);
        due(r, NONE, "when", 2);
        due(r, NONE, "when", 3);
        due(r, 1, "prick", 3);
        due(r, 0, "when", 3);
        for (int i = 1; i < 3; i++) due(r, i, "prick", 0);
        due(r, 1, "when", 0);
        leaves(0, State.SOME, "when", 0);
        leaves(NONE, State.SOME, "when", 1);
        leaves(1, State.SOME, "when", 2);
        leaves(NONE, State.FULL, "when", 2);
        for (int b : new int[] {0, 1, 3, 4}) leaves(0, State.FULL, "when", b);
        bounds("when", BOLT);
    }

    private void whenForty() {
        says(20, "(0 to 40)");
        // from MOON 3 on a picky one of HUNGER 0 eats 2, 0, 0, 1 and so on: 29 behind 37, 30 behind 40, 32 behind 41 NIGHTS
        String heap = "bolt 0 9 0;bolt 0 9 0;bolt 0 9 0;";
        Run r = of(heap + "bolt 0 3 0;bolt 0 1 0;picky 0 0 0;moon 3;");
        due(r, 40, "when", 3);
        due(r, NONE, "when", 4);
        due(r, 3, "rule", 2);
        due(r, 0, "go", 0);
        Run before = of(heap + "bolt 0 2 0;bolt 0 1 0;picky 0 0 0;moon 3;");
        due(before, 37, "when", 3);
        due(before, 40, "when", 4);
        due(before, 36, "when", 2);
        // one NIGHT later the 41st is the 40th
        due(r, 2, "go", 1);
        due(r, 39, "when", 3);
        due(r, 40, "when", 4);
    }

    private void eats() {
        says(21, "How many HOLES a MOTH would make in the next NIGHT, were it alone.");
        Run r = of("bolt 0 4 0;plain 0 3 0;plain 0 4 0;plain 0 5 0;plain 0 9 1;");
        int[] eaten = {3, 4, 4, 0};
        for (int m = 0; m < 4; m++) due(r, eaten[m], "eats", m);
        due(r, 1, "prick", 0);
        for (int m = 0; m < 3; m++) due(r, 3, "eats", m);
        due(r, 4, "go", 1);
        for (int m = 0; m < 4; m++) due(r, 0, "eats", m);
        leaves(0, State.SOME, "eats", 0);
        leaves(3, State.SOME, "eats", 1);
        for (int m = 0; m < 4; m++) leaves(0, State.FULL, "eats", m);
        says(21, "BAD.");
        bounds("eats", MOTH);
    }

    private void duty() {
        says(22, "DUTY of all now (what 0); behind the next NIGHT, no two HOLES meeting (1: HOLES times RATE).");
        int[][] duties = {{0, 0}, {12, 27}, {243, 324}};
        for (State s : State.values()) for (int what = 0; what < 2; what++) leaves(duties[s.ordinal()][what], s, "duty", what);
        Run r = of(FIVE_ALIKE + "glutton 0 9 0;glutton 0 9 0;glutton 0 9 0;rate 9;");
        due(r, 0, "duty", 0);
        due(r, 405, "duty", 1);
        due(r, 81, "go", 1);
        due(r, 405, "duty", 1);
        says(22, "BAD.");
        bounds("duty", ONE_OR_OTHER);
    }

    private void best() {
        says(23, "The FOLDING by which DUTY of all behind the next NIGHT is least, of several the first: that DUTY (what 0); "
            + "10 and b: 10 times the BALE and the LAYER of a BOLT by it.");
        leaves(0, State.EMPTY, "best", 0);
        int[] some = {9, 0, 1, 2}, full = {81, 0, 1, 4, 2, 3};
        leaves(some[0], State.SOME, "best", 0);
        leaves(full[0], State.FULL, "best", 0);
        for (int b = 0; b < 3; b++) leaves(some[1 + b], State.SOME, "best", 10 + b);
        for (int b = 0; b < 5; b++) leaves(full[1 + b], State.FULL, "best", 10 + b);
        Run one = of("bolt 0 9 2;");
        due(one, 0, "best", 0);
        due(one, 0, "best", 10);
        says(23, "BAD.");
        for (State s : State.values()) {
            for (int what : new int[] {-1, 1, 2, 9, 10 + s.bolts, 11 + s.bolts, 15, 16, 20, 256, MIN, MIN + 10, MAX}) leaves(BAD, s, "best", what);
        }
    }

    private void bestOfSeveral() {
        says(23, "FOLDINGS: all ways in which BOLTS can lie in BALES, by LAYERS; told by each BOLT's BALE and LAYER (10 times the BALE and the LAYER), "
            + "compared by BOLTS, one by one, by these numbers.");
        // the last of all ways with one BOLT, and with two: in BALES 0 and 1 all is eaten
        Run one = of("bolt 0 1 0;plain 0 1 0;plain 0 1 1;");
        due(one, 0, "best", 0);
        due(one, 20, "best", 10);
        Run two = of("bolt 0 9 0;bolt 1 1 0;glutton 0 9 0;glutton 0 9 1;plain 0 3 2;");
        due(two, 2, "best", 0);
        due(two, 21, "best", 10);
        due(two, 20, "best", 11);
        // each way is as good: the first one
        for (int n = 1; n <= 5; n++) {
            Run r = of("bolt 5 9 2;".repeat(n) + "plain 0 9 0;plain 0 9 1;plain 0 9 2;");
            due(r, 0, "best", 0);
            for (int b = 0; b < n; b++) due(r, b, "best", 10 + b);
        }
        // BOLT 0 on top of BALE 0 goes ahead of it below, whatever that makes of BOLT 1
        Run first = of("bolt 0 9 2;bolt 5 9 0;plain 5 9 0;plain 5 9 1;");
        due(first, 0, "best", 0);
        due(first, 0, "best", 10);
        due(first, 20, "best", 11);
        // BOLT 0 in LAYER 1 of BALE 0 goes ahead of LAYER 0 of BALE 1
        Run lower = of("bolt 0 9 0;bolt 0 9 0;camphor 1;plain 0 5 0;");
        due(lower, 0, "best", 0);
        due(lower, 1, "best", 10);
        due(lower, 0, "best", 11);
    }

    private void bestOfFive() {
        says(23, "of several the first");
        // gluttons are everywhere: nothing is eaten where all lie below the BOLT with CAMPHOR, first in BALE 0
        Run r = of("bolt 0 9 0;bolt 0 9 0;bolt 0 9 0;bolt 0 9 0;bolt 0 9 0;camphor 4;glutton 0 9 0;glutton 0 9 1;glutton 0 9 2;");
        due(r, 0, "best", 0);
        int[] below = {1, 2, 3, 4, 0};
        for (int b = 0; b < 5; b++) due(r, below[b], "best", 10 + b);
        // APPETITE is 10 in each BALE, WOOL 10 in all: all in one BALE meet in 2 HOLES
        Run meet = of("bolt 0 2 0;bolt 0 2 0;bolt 0 2 0;bolt 0 2 0;bolt 0 2 0;glutton 0 5 0;glutton 0 5 1;glutton 0 5 2;");
        due(meet, 2, "best", 0);
        for (int b = 0; b < 5; b++) due(meet, b, "best", 10 + b);
        due(r, 5, "bale", 0, 0);
    }

    private void guard() {
        says(24, "The BOLT (without CAMPHOR) which is to have it so that DUTY of all behind the next NIGHT is least, less than without, "
            + "of several the first (what 0), that DUTY (1).");
        leaves(2, State.SOME, "guard", 0);
        leaves(12, State.SOME, "guard", 1);
        Run two = of("bolt 0 9 1;bolt 0 9 2;plain 0 4 1;plain 0 4 2;");
        due(two, 0, "guard", 0);
        due(two, 4, "guard", 1);
        due(two, 0, "camphor", 0, 1);
        due(two, 1, "guard", 0);
        due(two, 0, "guard", 1);
        Run last = of(FIVE_ALIKE + "glutton 0 9 0;glutton 0 9 0;rate 2;");
        for (int b = 0; b < 4; b++) last.call("fold", b, 1);
        due(last, 4, "guard", 0);
        due(last, 0, "guard", 1);
        says(24, "BAD; NONE: by none.");
        due(two, 0, "camphor", 1, 1);
        for (int what = 0; what < 2; what++) {
            due(two, NONE, "guard", what);
            leaves(NONE, State.EMPTY, "guard", what);
            leaves(NONE, State.FULL, "guard", what);
        }
        // less than without: that all stays as it is does not do
        Run same = of("bolt 0 9 0;bolt 0 9 1;plain 0 4 2;");
        for (int what = 0; what < 2; what++) due(same, NONE, "guard", what);
        bounds("guard", ONE_OR_OTHER);
    }

    private void send() {
        says(25, "The BALE to which a MOTH is to go (its own, too) so that DUTY of all behind the next NIGHT is most, "
            + "of several the first (what 0), that DUTY (1).");
        int[][] some = {{0, 21}, {1, 21}};
        for (int m = 0; m < 2; m++) for (int what = 0; what < 2; what++) leaves(some[m][what], State.SOME, "send", m, what);
        for (int m = 0; m < 4; m++) for (int what = 0; what < 2; what++) leaves(what == 0 ? 0 : 243, State.FULL, "send", m, what);
        Run last = of("bolt 0 2 0;bolt 0 3 1;bolt 0 4 2;plain 0 9 0;rate 9;");
        due(last, 2, "send", 0, 0);
        due(last, 36, "send", 0, 1);
        Run own = of("bolt 0 2 0;bolt 0 3 1;bolt 0 3 2;plain 0 9 1;");
        due(own, 1, "send", 0, 0);
        due(own, 3, "send", 0, 1);
        Run nothing = of("plain 0 9 2;");
        due(nothing, 0, "send", 0, 0);
        due(nothing, 0, "send", 0, 1);
        // all DUTY counts, that of other MOTHS, too: where it eats beside them HOLES meet
        Run others = of("bolt 0 3 0;bolt 0 3 0;bolt 0 3 1;plain 0 3 0;plain 0 3 0;");
        due(others, 1, "send", 1, 0);
        due(others, 6, "send", 1, 1);
        says(25, "BAD.");
        bounds("send", MOTH, ONE_OR_OTHER);
    }

    private void raise() {
        says(26, "The BOLT to be folded on top of the BALE in which it is so that DUTY of all behind the next NIGHT is least, less than as it is, "
            + "of several the first (what 0), that DUTY (1).");
        Run last = of("bolt 0 9 0;bolt 5 9 0;bolt 5 9 0;bolt 5 9 0;bolt 0 2 0;plain 0 7 0;");
        due(last, 4, "raise", 0);
        due(last, 5, "raise", 1);
        due(last, 0, "bolt", 0, 5);
        Run two = of("bolt 0 9 1;bolt 0 3 1;bolt 0 3 1;plain 0 7 1;");
        due(two, 1, "raise", 0);
        due(two, 4, "raise", 1);
        says(26, "BAD; NONE: by none.");
        for (int what = 0; what < 2; what++) for (State s : State.values()) leaves(NONE, s, "raise", what);
        Run same = of("bolt 0 9 0;bolt 0 9 0;plain 0 5 0;");
        for (int what = 0; what < 2; what++) due(same, NONE, "raise", what);
        bounds("raise", ONE_OR_OTHER);
    }

    private void mean() {
        says(27, "Each MOTH flies in the next NIGHT by v out of ten (0 to 10), by itself: the mean of DUTY of all behind it: 0, 1.");
        // v; the numerator and the denominator of what is 12 and 9 v tenths
        int[][] rows = {{0, 12, 1}, {1, 129, 10}, {5, 33, 2}, {9, 201, 10}, {10, 21, 1}};
        for (int[] row : rows) for (int what = 0; what < 2; what++) leaves(row[1 + what], State.SOME, "mean", row[0], what);
        Run four = of("bolt 0 9 0;" + FOUR_OF_ONE + "rate 9;");
        int[][] means = {{0, 0, 1}, {1, 18, 5}, {3, 54, 5}, {5, 18, 1}, {9, 162, 5}, {10, 36, 1}};
        for (int[] row : means) for (int what = 0; what < 2; what++) due(four, row[1 + what], "mean", row[0], what);
        // by 1 of ten each: 2 HOLES alone, 1 alone, 2 together are 18 and 9 and 2 of a hundred
        Run met = of("bolt 0 2 0;plain 0 2 0;plain 0 1 0;");
        due(met, 29, "mean", 1, 0);
        due(met, 100, "mean", 1, 1);
        // one HOLE, unless all four stay: 6561 of 10000
        Run cap = of("bolt 0 1 0;" + FOUR_OF_ONE);
        due(cap, 3439, "mean", 1, 0);
        due(cap, 10000, "mean", 1, 1);
        says(27, "Fractions are in lowest terms, told as 0 the numerator, 1 the denominator, which is above 0 (0 is 0 by 1).");
        for (int v : new int[] {0, 1, 10}) {
            leaves(0, State.EMPTY, "mean", v, 0);
            leaves(1, State.EMPTY, "mean", v, 1);
            leaves(243, State.FULL, "mean", v, 0);
            leaves(1, State.FULL, "mean", v, 1);
        }
        says(27, "BAD.");
        bounds("mean", within(0, 10), ONE_OR_OTHER);
    }

    private void luck() {
        says(28, "Likewise, that a BOLT is EATEN UP behind it: 0, 1.");
        // all four have to fly: v times v times v times v of 10000
        Run four = of("bolt 0 4 0;bolt 0 0 0;bolt 0 1 1;" + FOUR_OF_ONE);
        int[][] rows = {{0, 0, 1}, {1, 1, 10000}, {2, 1, 625}, {3, 81, 10000}, {5, 1, 16}, {9, 6561, 10000}, {10, 1, 1}};
        for (int[] row : rows) for (int what = 0; what < 2; what++) due(four, row[1 + what], "luck", row[0], 0, what);
        for (int b = 1; b < 3; b++) for (int what = 0; what < 2; what++) due(four, what, "luck", 10, b, what);
        int[][] some = {{0, 0, 1}, {1, 1, 10}, {5, 1, 2}, {10, 1, 1}};
        for (int[] row : some) for (int what = 0; what < 2; what++) leaves(row[1 + what], State.SOME, "luck", row[0], 2, what);
        for (int v : new int[] {0, 5, 10}) for (int what = 0; what < 2; what++) {
            leaves(1, State.SOME, "luck", v, 0, what);
            leaves(what, State.SOME, "luck", v, 1, what);
            leaves(1, State.FULL, "luck", v, 4, what);
            leaves(what, State.FULL, "luck", v, 2, what);
        }
        says(28, "BAD.");
        bounds("luck", within(0, 10), BOLT, ONE_OR_OTHER);
    }
}
