import java.util.ArrayList;
import java.util.Arrays;
import java.util.List;
import java.util.function.Predicate;
import java.util.function.ToIntFunction;
import java.util.regex.Matcher;
import java.util.regex.Pattern;

/** The document once more, as plainly and as differently from the program as can be: the random runs compare the two. */
final class Model {
    static final int BAD = -1, STATE = -2, FULL = -3, NONE = -4;

    static final class Bolt {
        int dye, wool, holes;
        boolean camphor;
    }

    static final class Moth {
        int kind, taste, hunger, at;
    }

    static final class World {
        List<Bolt> bolts = new ArrayList<>();
        List<Moth> moths = new ArrayList<>();
        List<List<Integer>> bales = new ArrayList<>(List.of(new ArrayList<>(), new ArrayList<>(), new ArrayList<>()));
        int moon = 0, rate = 1, night = 0;
        List<int[]> seen = new ArrayList<>();

        World twin() {
            World w = new World();
            for (Bolt b : bolts) {
                Bolt c = new Bolt();
                c.dye = b.dye; c.wool = b.wool; c.holes = b.holes; c.camphor = b.camphor;
                w.bolts.add(c);
            }
            for (Moth m : moths) {
                Moth c = new Moth();
                c.kind = m.kind; c.taste = m.taste; c.hunger = m.hunger; c.at = m.at;
                w.moths.add(c);
            }
            w.bales.clear();
            for (List<Integer> l : bales) w.bales.add(new ArrayList<>(l));
            w.moon = moon; w.rate = rate; w.night = night;
            for (int[] s : seen) w.seen.add(s.clone());
            return w;
        }

        int appetite(Moth m) {
            int plain = m.hunger + moon;
            return m.kind == 0 ? plain : m.kind == 1 ? (plain == 0 ? 0 : plain - 1) : m.kind == 2 ? plain + plain : plain >> 1;
        }

        boolean likes(Moth m, Bolt b) {
            int far = b.dye > m.taste ? b.dye - m.taste : m.taste - b.dye;
            return m.kind == 2 || m.kind == 1 && far == 0 || (m.kind == 0 || m.kind == 3) && far < 2;
        }

        void oneMoth(Moth m) {
            int left = appetite(m);
            for (int b : bales.get(m.at)) {
                Bolt bolt = bolts.get(b);
                if (bolt.camphor) break;
                if (!likes(m, bolt)) continue;
                while (left > 0 && bolt.holes < bolt.wool) {
                    left--;
                    bolt.holes++;
                }
            }
        }

        World night() {
            for (Moth m : moths) oneMoth(m);
            moon = moon == 3 ? 0 : moon + 1;
            night++;
            return this;
        }

        World nights(int n) {
            for (int i = 0; i < n; i++) night();
            return this;
        }

        int holes() {
            return bolts.stream().mapToInt(b -> b.holes).sum();
        }

        int duty(int k) {
            List<Integer> l = bales.get(k);
            int sum = 0;
            for (int b : l) sum += bolts.get(b).holes;
            for (int i = 0; i + 1 < l.size(); i++) sum -= Math.min(bolts.get(l.get(i)).holes, bolts.get(l.get(i + 1)).holes);
            return sum * rate;
        }

        int duty() {
            return duty(0) + duty(1) + duty(2);
        }

        boolean eaten(int b) {
            return bolts.get(b).wool > 0 && bolts.get(b).holes == bolts.get(b).wool;
        }

        int baleOf(int b) {
            for (int k = 0; k < 3; k++) if (bales.get(k).contains(b)) return k;
            throw new IllegalStateException("a bolt that lies nowhere");
        }

        int layerOf(int b) {
            return bales.get(baleOf(b)).indexOf(b);
        }

        World top(int b, int k) {
            bales.get(baleOf(b)).remove((Integer) b);
            bales.get(k).add(0, b);
            return this;
        }

        boolean asSeen() {
            for (int[] s : seen) if (bolts.get(s[0]).holes != s[1]) return false;
            return true;
        }
    }

    World now = new World();
    String tape = "";
    int fault = 0, torn = 0;
    World[] images = new World[2];
    Object[] sheets = new Object[4];

    static int bits(int n, Predicate<Integer> is) {
        int sum = 0;
        for (int i = 0; i < n; i++) if (is.test(i)) sum += 1 << i;
        return sum;
    }

    boolean noBolt(int b) { return b < 0 || b >= now.bolts.size(); }
    boolean noMoth(int m) { return m < 0 || m >= now.moths.size(); }
    static boolean out(int v, int least, int most) { return v < least || v > most; }

    int feed(int c) {
        if (out(c, 0, 127)) return BAD;
        if (tape.length() == 160) return FULL;
        tape += (char) c;
        return tape.length();
    }

    int end(int n) {
        if (out(n, 0, tape.length())) return BAD;
        int had = tape.length();
        tape = tape.substring(0, n);
        return had;
    }

    // ---- the text, by a list of what each line wants

    static final Pattern TOKEN = Pattern.compile(" *(?:([a-z]+)|([0-9]{1,2})(?![0-9])|(;)|(\\z))");
    static final List<String> KINDS = List.of("plain", "picky", "glutton", "fat");

    static final class Torn extends Exception {
        private static final long serialVersionUID = 1;
        final int fault, place;
        Torn(int fault, int place) { this.fault = fault; this.place = place; }
    }

    String name;
    int number, sign, at, from;

    /** 'n' a name, '9' a number, ';' the sign, 'e' the end. */
    char token(String text) throws Torn {
        Matcher m = TOKEN.matcher(text).region(at, text.length());
        m.useTransparentBounds(true);
        if (!m.lookingAt()) {
            int i = at;
            while (text.charAt(i) == ' ') i++;
            throw new Torn(1, i);
        }
        at = m.end();
        for (int g = 1; g <= 4; g++) {
            if (m.group(g) == null) continue;
            from = m.start(g);
            if (g == 1) name = m.group(1);
            if (g == 2) number = Integer.parseInt(m.group(2));
            return "n9;e".charAt(g - 1);
        }
        throw new IllegalStateException("no token");
    }

    int number(String text, int least, int most) throws Torn {
        if (token(text) != '9') throw new Torn(2, from);
        if (out(number, least, most)) throw new Torn(3, from);
        return number;
    }

    int[] three(String text) throws Torn {
        return new int[] {number(text, 0, 5), number(text, 0, 9), number(text, 0, 2)};
    }

    int line(String text, World w, List<Integer> camphors, List<String> once) throws Torn {
        int begun = from;
        Runnable todo;
        String line = name;
        if (line.equals("bolt")) {
            if (w.bolts.size() == 5) throw new Torn(5, begun);
            int[] v = three(text);
            todo = () -> {
                Bolt b = new Bolt();
                b.dye = v[0];
                b.wool = v[1];
                w.bales.get(v[2]).add(w.bolts.size());
                w.bolts.add(b);
            };
        } else if (KINDS.contains(line)) {
            if (w.moths.size() == 4) throw new Torn(5, begun);
            int[] v = three(text);
            todo = () -> {
                Moth m = new Moth();
                m.kind = KINDS.indexOf(line);
                m.taste = v[0];
                m.hunger = v[1];
                m.at = v[2];
                w.moths.add(m);
            };
        } else if (line.equals("camphor")) {
            int b = number(text, 0, 4);
            if (camphors.contains(b)) throw new Torn(4, from);
            todo = () -> camphors.add(b);
        } else if (line.equals("moon") || line.equals("rate")) {
            if (once.contains(line)) throw new Torn(4, begun);
            boolean moon = line.equals("moon");
            int v = number(text, moon ? 0 : 1, moon ? 3 : 9);
            once.add(line);
            todo = () -> { if (moon) w.moon = v; else w.rate = v; };
        } else {
            throw new Torn(2, begun);
        }
        if (token(text) != ';') throw new Torn(2, from);
        todo.run();
        return 1;
    }

    int text() {
        String text = tape;
        tape = "";
        at = 0;
        World w = new World();
        List<Integer> camphors = new ArrayList<>();
        int lines = 0;
        try {
            List<String> once = new ArrayList<>();
            for (char t = token(text); t != 'e'; t = token(text)) {
                if (t != 'n') throw new Torn(2, from);
                lines += line(text, w, camphors, once);
            }
            for (int b : camphors) if (b >= w.bolts.size()) throw new Torn(6, text.length());
        } catch (Torn met) {
            fault = met.fault;
            return -10 - met.place;
        }
        for (int b : camphors) w.bolts.get(b).camphor = true;
        fault = 0;
        now = w;
        images = new World[2];
        return lines;
    }

    int fault() { return fault; }

    int rule(int what) {
        if (out(what, 0, 6)) return BAD;
        return new int[] {now.bolts.size(), now.moths.size(), now.moon, now.rate, now.night,
            bits(now.bolts.size(), b -> now.bolts.get(b).camphor), bits(now.bolts.size(), now::eaten)}[what];
    }

    int bolt(int b, int what) {
        if (noBolt(b) || out(what, 0, 5)) return BAD;
        Bolt o = now.bolts.get(b);
        return new int[] {o.dye, o.wool, o.holes, o.camphor ? 1 : 0, now.baleOf(b), now.layerOf(b)}[what];
    }

    int moth(int m, int what) {
        if (noMoth(m) || out(what, 0, 5)) return BAD;
        Moth o = now.moths.get(m);
        return new int[] {o.kind, o.taste, o.hunger, o.at, now.appetite(o),
            bits(now.bolts.size(), b -> now.likes(o, now.bolts.get(b)))}[what];
    }

    int bale(int k, int what) {
        if (out(k, 0, 2) || what != 0 && what != 1 && out(what, 10, 14)) return BAD;
        List<Integer> l = now.bales.get(k);
        if (what == 0) return l.size();
        if (what == 1) return now.duty(k);
        return what - 10 < l.size() ? l.get(what - 10) : NONE;
    }

    int fold(int b, int k) {
        if (noBolt(b) || out(k, 0, 2)) return BAD;
        return now.top(b, k).bales.get(k).size();
    }

    int under(int b, int k) {
        if (noBolt(b) || out(k, 0, 2)) return BAD;
        now.bales.get(now.baleOf(b)).remove((Integer) b);
        now.bales.get(k).add(b);
        return now.bales.get(k).size();
    }

    int swap(int b, int c) {
        if (noBolt(b) || noBolt(c) || b == c) return BAD;
        for (List<Integer> l : now.bales) l.replaceAll(x -> x == b ? c : x == c ? b : x);
        return now.baleOf(b);
    }

    int camphor(int b, boolean is) {
        if (noBolt(b)) return BAD;
        boolean had = now.bolts.get(b).camphor;
        now.bolts.get(b).camphor = is;
        return had ? 1 : 0;
    }

    int patch(int b, int n) {
        if (noBolt(b) || out(n, 0, 9)) return BAD;
        if (now.bolts.get(b).holes < n) return STATE;
        return now.bolts.get(b).holes -= n;
    }

    int prick(int b) {
        if (noBolt(b)) return BAD;
        return now.bolts.get(b).holes == now.bolts.get(b).wool ? FULL : ++now.bolts.get(b).holes;
    }

    int alter(int m, int what, int v) {
        if (noMoth(m) || out(what, 0, 3) || out(v, 0, new int[] {3, 5, 9, 2}[what])) return BAD;
        Moth o = now.moths.get(m);
        int was = new int[] {o.kind, o.taste, o.hunger, o.at}[what];
        if (what == 0) o.kind = v;
        if (what == 1) o.taste = v;
        if (what == 2) o.hunger = v;
        if (what == 3) o.at = v;
        return was;
    }

    int set(int what, int v) {
        if (out(what, 0, 1) || out(v, what, what == 0 ? 3 : 9)) return BAD;
        int was = what == 0 ? now.moon : now.rate;
        if (what == 0) now.moon = v; else now.rate = v;
        return was;
    }

    int go(int n) {
        if (out(n, 0, 20)) return BAD;
        return now.night + n >= 1000 ? FULL : now.nights(n).duty();
    }

    int ahead(int n, int what) {
        if (out(n, 0, 20) || out(what, 0, 2)) return BAD;
        World w = now.twin().nights(n);
        return what == 0 ? w.duty() : what == 1 ? w.holes() : bits(w.bolts.size(), w::eaten);
    }

    int when(int b) {
        if (noBolt(b)) return BAD;
        for (int n = 0; n <= 40; n++) if (now.twin().nights(n).eaten(b)) return n;
        return NONE;
    }

    int eats(int m) {
        if (noMoth(m)) return BAD;
        World w = now.twin();
        w.oneMoth(w.moths.get(m));
        return w.holes() - now.holes();
    }

    int duty(int what) {
        if (out(what, 0, 1)) return BAD;
        return what == 0 ? now.duty() : now.twin().night().holes() * now.rate;
    }

    // ---- what is best: all candidates are written down, then looked through

    int best(int what) {
        if (what != 0 && (what < 10 || noBolt(what - 10))) return BAD;
        int n = now.bolts.size();
        int[] least = null;
        int duty = 0;
        int all = 1;
        for (int b = 0; b < n; b++) all *= 15;
        for (int x = 0; x < all; x++) {
            int[] codes = new int[n];
            for (int b = n - 1, y = x; b >= 0; b--, y /= 15) codes[b] = y % 15;
            World w = folded(codes);
            if (w == null) continue;
            int d = w.night().duty();
            if (least == null || d < duty) {
                least = codes;
                duty = d;
            }
        }
        return what == 0 ? duty : 10 * (least[what - 10] / 5) + least[what - 10] % 5;
    }

    World folded(int[] codes) {
        int[] lies = new int[15];
        Arrays.fill(lies, -1);
        for (int b = 0; b < codes.length; b++) {
            if (lies[codes[b]] >= 0) return null;
            lies[codes[b]] = b;
        }
        for (int i = 0; i < 15; i++) if (i % 5 > 0 && lies[i] >= 0 && lies[i - 1] < 0) return null;
        World w = now.twin();
        for (int k = 0; k < 3; k++) {
            w.bales.get(k).clear();
            for (int i = 0; i < 5; i++) if (lies[5 * k + i] >= 0) w.bales.get(k).add(lies[5 * k + i]);
        }
        return w;
    }

    int least(int what, Predicate<Integer> may, ToIntFunction<Integer> duty) {
        if (out(what, 0, 1)) return BAD;
        int without = now.twin().night().duty();
        int best = without;
        for (int b = 0; b < now.bolts.size(); b++) if (may.test(b)) best = Math.min(best, duty.applyAsInt(b));
        if (best == without) return NONE;
        if (what == 1) return best;
        for (int b = 0; ; b++) if (may.test(b) && duty.applyAsInt(b) == best) return b;
    }

    int guard(int what) {
        return least(what, b -> !now.bolts.get(b).camphor, b -> {
            World w = now.twin();
            w.bolts.get(b).camphor = true;
            return w.night().duty();
        });
    }

    int raise(int what) {
        return least(what, b -> true, b -> now.twin().top(b, now.baleOf(b)).night().duty());
    }

    int send(int m, int what) {
        if (noMoth(m) || out(what, 0, 1)) return BAD;
        int[] duties = new int[3];
        for (int k = 0; k < 3; k++) {
            World w = now.twin();
            w.moths.get(m).at = k;
            duties[k] = w.night().duty();
        }
        int most = Arrays.stream(duties).max().getAsInt();
        return what == 1 ? most : duties[0] == most ? 0 : duties[1] == most ? 1 : 2;
    }

    // ---- odds: each moth draws a figure, and flies by those below v; all draws are counted

    long odds(int v, int what, ToIntFunction<World> of) {
        int cases = (int) Math.round(Math.pow(10, now.moths.size()));
        long sum = 0;
        Integer[] known = new Integer[16];
        for (int draw = 0; draw < cases; draw++) {
            int fly = 0;
            for (int m = 0, y = draw; m < now.moths.size(); m++, y /= 10) if (y % 10 < v) fly |= 1 << m;
            if (known[fly] == null) {
                World w = now.twin();
                for (int m = 0; m < w.moths.size(); m++) if ((fly >> m & 1) == 1) w.oneMoth(w.moths.get(m));
                known[fly] = of.applyAsInt(w);
            }
            sum += known[fly];
        }
        long below = cases;
        for (int p : new int[] {2, 5}) {
            while (sum % p == 0 && below % p == 0) {
                sum /= p;
                below /= p;
            }
        }
        return what == 0 ? sum : below;
    }

    long mean(int v, int what) {
        if (out(v, 0, 10) || out(what, 0, 1)) return BAD;
        return odds(v, what, World::duty);
    }

    long luck(int v, int b, int what) {
        if (out(v, 0, 10) || noBolt(b) || out(what, 0, 1)) return BAD;
        return odds(v, what, w -> w.eaten(b) ? 1 : 0);
    }

    // ---- what was counted

    int see(int b, int h) {
        if (noBolt(b) || out(h, 0, 9)) return BAD;
        if (now.seen.size() == 6) return FULL;
        now.seen.add(new int[] {b, h});
        return now.seen.size();
    }

    int forget(int n) {
        int had = now.seen.size();
        if (out(n, 0, had)) return BAD;
        now.seen = new ArrayList<>(now.seen.subList(0, n));
        return had;
    }

    int tastes(int m) {
        if (noMoth(m)) return BAD;
        return bits(6, t -> {
            World w = now.twin();
            w.moths.get(m).taste = t;
            return w.night().asSeen();
        });
    }

    int bought() {
        return bits(now.moths.size(), m -> {
            World w = now.twin();
            w.moths.remove((int) m);
            return w.night().asSeen();
        });
    }

    int pricked(int what) {
        if (out(what, 0, 1)) return BAD;
        List<Integer> sets = new ArrayList<>();
        for (int set = 0; set < 1 << now.bolts.size(); set++) {
            World w = now.twin().night();
            for (int b = 0; b < w.bolts.size(); b++) {
                Bolt o = w.bolts.get(b);
                if ((set & 1 << b) != 0) o.holes = Math.min(o.wool, o.holes + 1);
            }
            if (w.asSeen()) sets.add(set);
        }
        return what == 0 ? sets.size() : sets.isEmpty() ? NONE : sets.get(0);
    }

    int lain(int k) {
        if (out(k, 0, 2)) return BAD;
        int[] tops = new int[1];
        orders(new ArrayList<>(), now.bales.get(k), order -> {
            World w = now.twin();
            w.bales.set(k, order);
            if (!order.isEmpty() && w.night().asSeen()) tops[0] |= 1 << order.get(0);
        });
        return tops[0];
    }

    static void orders(List<Integer> begun, List<Integer> rest, java.util.function.Consumer<List<Integer>> each) {
        if (rest.isEmpty()) each.accept(new ArrayList<>(begun));
        for (Integer b : rest) {
            List<Integer> more = new ArrayList<>(begun), less = new ArrayList<>(rest);
            more.add(b);
            less.remove(b);
            orders(more, less, each);
        }
    }

    int drift(int seed, int n, int what) {
        if (out(n, 1, 20) || out(what, 0, 1)) return BAD;
        if (now.bolts.isEmpty()) return STATE;
        World w = now.twin();
        long s = seed & 0xffffffffL;
        for (int i = 0; i < n; i++) {
            s = (s * 1103515245L + 12345L) % (1L << 32);
            int x = (int) (s / 65536 % 32768);
            w.top(x % w.bolts.size(), x % 3).night();
        }
        return what == 0 ? w.duty() : w.holes();
    }

    // ---- images, sheets: rows of the machine itself, whose faults are caught

    int keep(int k) {
        if (out(k, 0, 1)) return BAD;
        int was = images[k] == null ? 0 : 1;
        images[k] = now.twin();
        return was;
    }

    int back(int k) {
        if (out(k, 0, 1)) return BAD;
        if (images[k] == null) return STATE;
        now = images[k].twin();
        return now.night;
    }

    int sheet(int k, int lane, int n) {
        if (out(k, 0, 3) || out(lane, 0, 2) || n > 40) return BAD;
        try {
            sheets[k] = lane == 0 ? new byte[n] : lane == 1 ? new short[n] : new int[n];
        } catch (NegativeArraySizeException met) {
            return -14;
        }
        return 1;
    }

    int lay(int k, int i, int v) {
        if (out(k, 0, 3)) return BAD;
        try {
            if (sheets[k] instanceof byte[]) ((byte[]) sheets[k])[i] = (byte) v;
            else if (sheets[k] instanceof short[]) ((short[]) sheets[k])[i] = (short) v;
            else ((int[]) sheets[k])[i] = v;
        } catch (NullPointerException met) {
            return -11;
        } catch (IndexOutOfBoundsException met) {
            return -12;
        }
        return 1;
    }

    int cell(Object row, int lane, int i) {
        return lane == 0 ? ((byte[]) row)[i] : lane == 1 ? ((short[]) row)[i] : ((int[]) row)[i];
    }

    int read(int k, int lane, int f, int n) {
        if (out(k, 0, 3) || out(lane, 0, 2) || out(n, 0, 20)) return BAD;
        List<int[]> whole = new ArrayList<>();
        int met = 0;
        try {
            for (int i = 0; i < n; i++) {
                int b = cell(sheets[k], lane, f + 2 * i);
                int to = cell(sheets[k], lane, f + 2 * i + 1);
                if (noBolt(b) || out(to, 0, 2)) return -20 - i;
                whole.add(new int[] {b, to});
            }
        } catch (NullPointerException e) {
            met = 1;
        } catch (IndexOutOfBoundsException e) {
            met = 2;
        } catch (ClassCastException e) {
            met = 3;
        }
        for (int[] p : whole) fold(p[0], p[1]);
        torn = met;
        return whole.size();
    }

    int torn() { return torn; }

    int count(int what) {
        if (out(what, 0, 4)) return BAD;
        if (what == 0) return now.holes();
        if (what == 1) return now.seen.size();
        if (what == 2) return (images[0] == null ? 0 : 1) + (images[1] == null ? 0 : 1);
        if (what == 3) return tape.length();
        return sheets[0] == null ? NONE : java.lang.reflect.Array.getLength(sheets[0]);
    }
}
