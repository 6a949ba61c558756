/** Runs of calls by a seed of its own: the program has to answer each as the model does. */
public final class RandomRuns {
    private static final int RUNS = 6000;
    private static final int CALLS = 512;

    private long seed;
    private final Model model = new Model();
    private final MothCustoms program = new MothCustoms();
    private final StringBuilder told = new StringBuilder();
    private int calls = 0;

    private RandomRuns(long seed) {
        this.seed = seed * 2862933555777941757L + 3037000493L;
    }

    private int below(int n) {
        seed = seed * 6364136223846793005L + 1442695040888963407L;
        return (int) ((seed >>> 33) % n);
    }

    /** Mostly from least to most, now and then just outside, rarely far out. */
    private int about(int least, int most) {
        int die = below(60);
        if (die == 0) return least - 1;
        if (die == 1) return most + 1;
        if (die == 2) return new int[] {Integer.MIN_VALUE, Integer.MAX_VALUE, -20, 200, 10, -11, 256}[below(7)];
        return least + below(most - least + 1);
    }

    private boolean same(String call, long got, long due) {
        calls++;
        told.append(call).append(" = ").append(due).append('\n');
        if (got == due) return true;
        System.out.println(told);
        System.out.println("the last call answered " + got);
        return false;
    }

    private String name(String... names) { return names[below(names.length)]; }

    private String gap(boolean needed) {
        int n = below(10) == 0 ? below(3) : 0;
        return " ".repeat(needed ? n + 1 : n);
    }

    private String text() {
        StringBuilder s = new StringBuilder();
        int lines = 1 + below(12);
        boolean loose = below(4) == 0;
        int bolts = 0, moths = 0;
        boolean moon = false, rate = false;
        for (int i = 0; i < lines; i++) {
            String n = name("bolt", "bolt", "bolt", "bolt", "plain", "picky", "glutton", "fat", "camphor", "moon", "rate");
            if (!loose && (n.equals("moon") && moon || n.equals("rate") && rate || n.equals("camphor") && i > 3)) n = "bolt";
            if (n.equals("bolt") && ++bolts > 5 && !loose) break;
            if (Model.KINDS.contains(n) && ++moths > 4 && !loose) continue;
            moon |= n.equals("moon");
            rate |= n.equals("rate");
            s.append(gap(false)).append(n).append(gap(below(4) > 0));
            if (n.equals("camphor")) s.append(loose ? below(6) : i % 4);
            else if (n.equals("moon")) s.append(below(4));
            else if (n.equals("rate")) s.append(1 + below(9));
            else s.append(below(6)).append(gap(true)).append(3 + below(7)).append(gap(true)).append(below(5) < 3 ? 0 : below(3));
            s.append(gap(false)).append(';');
        }
        s.append(gap(false));
        if (below(4) == 0) {
            int flaws = 1 + below(2);
            for (int i = 0; i < flaws; i++) spoil(s);
        }
        return s.toString();
    }

    private void spoil(StringBuilder s) {
        int i = below(s.length());
        String with = name(";", " ", "a", "z", "7", "10", "007", "{", "`", "/", ":", ".", "bolt", "moon", "#", "@");
        int die = below(3);
        if (die == 0) s.insert(i, with);
        else if (die == 1) s.deleteCharAt(i);
        else s.setCharAt(i, with.charAt(0));
    }

    private boolean tell(String text) {
        for (int i = 0; i < text.length(); i++) {
            int c = text.charAt(i);
            if (!same("feed(" + c + ")", program.feed(c), model.feed(c))) return false;
        }
        return same("text()", program.text(), model.text());
    }

    private boolean state() {
        for (int i = 0; i < 7; i++) if (!same("rule(" + i + ")", program.rule(i), model.rule(i))) return false;
        for (int b = 0; b < 5; b++) for (int i = 0; i < 6; i++) if (!same("bolt(" + b + ", " + i + ")", program.bolt(b, i), model.bolt(b, i))) return false;
        for (int m = 0; m < 4; m++) for (int i = 0; i < 6; i++) if (!same("moth(" + m + ", " + i + ")", program.moth(m, i), model.moth(m, i))) return false;
        for (int k = 0; k < 3; k++) for (int i = 0; i < 15; i++) if (!same("bale(" + k + ", " + i + ")", program.bale(k, i), model.bale(k, i))) return false;
        for (int i = 0; i < 5; i++) if (!same("count(" + i + ")", program.count(i), model.count(i))) return false;
        return same("fault()", program.fault(), model.fault()) && same("torn()", program.torn(), model.torn());
    }

    private int aBolt() { return about(0, Math.max(0, model.now.bolts.size() - 1)); }
    private int aMoth() { return about(0, Math.max(0, model.now.moths.size() - 1)); }

    private boolean call() {
        int b = aBolt(), c = aBolt(), m = aMoth(), k = about(0, 2), what = about(0, 1);
        switch (below(50) == 0 ? 0 : 1 + below(43)) {
            case 0: { int x = below(3) == 0 ? about(0, 127) : 32;
                for (int i = 0; i < 160 && below(30) > 0; i++) if (!same("feed(" + x + ")", program.feed(x), model.feed(x))) return false;
                return same("feed(" + x + ")", program.feed(x), model.feed(x)); }
            case 1: { int n = about(0, Math.max(0, model.tape.length())); return same("end(" + n + ")", program.end(n), model.end(n)); }
            case 2: return below(40) > 0 || same("text()", program.text(), model.text());
            case 3: return same("fault()", program.fault(), model.fault());
            case 4: { int w = about(0, 6); return same("rule(" + w + ")", program.rule(w), model.rule(w)); }
            case 5: { int w = about(0, 5); return same("bolt(" + b + ", " + w + ")", program.bolt(b, w), model.bolt(b, w)); }
            case 6: { int w = about(0, 5); return same("moth(" + m + ", " + w + ")", program.moth(m, w), model.moth(m, w)); }
            case 7: { int w = below(2) == 0 ? about(0, 1) : about(10, 14); return same("bale(" + k + ", " + w + ")", program.bale(k, w), model.bale(k, w)); }
            case 8: return same("fold(" + b + ", " + k + ")", program.fold(b, k), model.fold(b, k));
            case 9: return same("under(" + b + ", " + k + ")", program.under(b, k), model.under(b, k));
            case 10: return same("swap(" + b + ", " + c + ")", program.swap(b, c), model.swap(b, c));
            case 11: { boolean is = below(4) == 0; return same("camphor(" + b + ", " + is + ")", program.camphor(b, is), model.camphor(b, is)); }
            case 12: { int n = about(0, 9); return same("patch(" + b + ", " + n + ")", program.patch(b, n), model.patch(b, n)); }
            case 13: return same("prick(" + b + ")", program.prick(b), model.prick(b));
            case 14: {
                int w = about(0, 3);
                int v = w == 0 ? about(0, 3) : w == 1 ? about(0, 5) : w == 2 ? about(0, 9) : about(0, 2);
                return same("alter(" + m + ", " + w + ", " + v + ")", program.alter(m, w, v), model.alter(m, w, v));
            }
            case 15: { int v = what == 0 ? about(0, 3) : about(1, 9); return same("set(" + what + ", " + v + ")", program.set(what, v), model.set(what, v)); }
            case 16: { int n = model.now.night > 900 || below(8) == 0 ? about(0, 20) : below(8) == 0 ? 1 : 0; return same("go(" + n + ")", program.go(n), model.go(n)); }
            case 17: case 18: { int n = about(0, 20), w = about(0, 2); return same("ahead(" + n + ", " + w + ")", program.ahead(n, w), model.ahead(n, w)); }
            case 19: return same("when(" + b + ")", program.when(b), model.when(b));
            case 20: return same("eats(" + m + ")", program.eats(m), model.eats(m));
            case 21: return same("duty(" + what + ")", program.duty(what), model.duty(what));
            case 22: {
                if (model.now.bolts.size() == 5 && below(10) > 0) return true;
                int w = below(2) == 0 ? about(0, 0) : 10 + b;
                return same("best(" + w + ")", program.best(w), model.best(w));
            }
            case 23: case 24: return same("guard(" + what + ")", program.guard(what), model.guard(what));
            case 25: return same("send(" + m + ", " + what + ")", program.send(m, what), model.send(m, what));
            case 26: return same("raise(" + what + ")", program.raise(what), model.raise(what));
            case 27: { int v = about(0, 10); return same("mean(" + v + ", " + what + ")", program.mean(v, what), model.mean(v, what)); }
            case 28: { int v = about(0, 10); return same("luck(" + v + ", " + b + ", " + what + ")", program.luck(v, b, what), model.luck(v, b, what)); }
            case 29: case 30: {
                int h = about(0, 9);
                if (below(3) > 0 && b >= 0 && b < model.now.bolts.size()) h = model.now.twin().night().bolts.get(b).holes;
                if (below(8) == 0) h++;
                return same("see(" + b + ", " + h + ")", program.see(b, h), model.see(b, h));
            }
            case 31: { int n = about(0, model.now.seen.size()); return same("forget(" + n + ")", program.forget(n), model.forget(n)); }
            case 32: return same("tastes(" + m + ")", program.tastes(m), model.tastes(m));
            case 33: return same("bought()", program.bought(), model.bought());
            case 34: return same("pricked(" + what + ")", program.pricked(what), model.pricked(what));
            case 35: return same("lain(" + k + ")", program.lain(k), model.lain(k));
            case 36: { int s = below(Integer.MAX_VALUE) * (1 - 2 * below(2)), n = about(1, 20); return same("drift(" + s + ", " + n + ", " + what + ")", program.drift(s, n, what), model.drift(s, n, what)); }
            case 37: return same("keep(" + what + ")", program.keep(what), model.keep(what));
            case 38: return same("back(" + what + ")", program.back(what), model.back(what));
            case 39: { int s = about(0, 3), lane = about(0, s & 1), n = about(0, below(2) == 0 ? 6 : 40); return below(2) == 0 || same("sheet(" + s + ", " + lane + ", " + n + ")", program.sheet(s, lane, n), model.sheet(s, lane, n)); }
            case 40: case 41: { int s = about(0, 1), i = about(0, below(2) == 0 ? 5 : 39), v = below(20) == 0 ? about(0, 70000) : below(2) == 0 ? aBolt() : about(0, 2); return same("lay(" + s + ", " + i + ", " + v + ")", program.lay(s, i, v), model.lay(s, i, v)); }
            case 42: { int s = about(0, below(4) == 0 ? 3 : 1), lane = about(0, s & 1), f = about(0, below(2) == 0 ? 4 : 40), n = below(2) == 0 ? about(0, 3) : about(0, 20); return same("read(" + s + ", " + lane + ", " + f + ", " + n + ")", program.read(s, lane, f, n), model.read(s, lane, f, n)); }
            default: { int w = about(0, 4); return same("count(" + w + ")", program.count(w), model.count(w)) && same("torn()", program.torn(), model.torn()); }
        }
    }

    private boolean goes() {
        boolean late = below(6) == 0;
        if (!tell(text()) || !state()) return false;
        for (int i = 0; late && i < 49; i++) if (!same("go(20)", program.go(20), model.go(20))) return false;
        boolean again = below(4) == 0;
        // the states that are looked at whole are calls, too
        while (calls < CALLS - 120) {
            if (!call()) return false;
            if (again && below(60) == 0 && calls < 150 && !tell(text())) return false;
        }
        return state();
    }

    public static void main(String[] args) {
        int runs = args.length > 0 ? Integer.parseInt(args[0]) : RUNS;
        long first = args.length > 1 ? Long.parseLong(args[1]) : 1;
        int failed = 0;
        for (int r = 0; r < runs && failed < 3; r++) {
            RandomRuns run = new RandomRuns(first + r);
            if (!run.goes()) failed++;
        }
        System.out.println("random runs: " + (runs - failed) + " passed, " + failed + " failed");
        if (failed > 0) System.exit(1);
    }
}
