import java.util.ArrayList;
import java.util.Arrays;
import java.util.HashMap;
import java.util.List;
import java.util.Map;

/**
 * The document once more, written plainly and by other ways than the program (trees for laws, all
 * hangings tried one by one), so that random runs can be compared with it. Speed doesn't matter here.
 */
final class Model {
    static final int NONE = -1;

    // ---- the text

    interface Expr { int value(Map<String, Integer> vars); }

    static final class DividedByZero extends RuntimeException {
        private static final long serialVersionUID = 1L;
    }

    static final class Fault extends RuntimeException {
        private static final long serialVersionUID = 1L;
        final int number;
        final int place;
        Fault(int number, int place) { this.number = number; this.place = place; }
    }

    static final class Branch {
        Expr less, more, then;
    }

    static final class Law {
        final List<Branch> branches = new ArrayList<>();
        Expr last;

        int value(Map<String, Integer> vars, int most) {
            int v;
            try {
                v = plain(vars);
            } catch (DividedByZero e) {
                v = 0;
            }
            return v < 0 ? 0 : v > most ? most : v;
        }

        private int plain(Map<String, Integer> vars) {
            for (Branch b : branches) {
                if (b.less.value(vars) < b.more.value(vars)) return b.then.value(vars);
            }
            return last.value(vars);
        }
    }

    static final class Text {
        final List<int[]> hangers = new ArrayList<>();
        final List<int[]> people = new ArrayList<>();
        final Map<Integer, Integer> hangs = new HashMap<>();
        final Map<String, Law> laws = new HashMap<>();
        int moth, seed;

        Text() {
            for (String s : new String[] {"crooks", "costs"}) {
                Law l = new Law();
                l.last = vars -> vars.get("apart");
                laws.put(s, l);
            }
            for (String s : new String[] {"bends", "slips"}) {
                Law l = new Law();
                l.last = vars -> 0;
                laws.put(s, l);
            }
        }
    }

    static final List<String> WORDS = Arrays.asList("hanger", "person", "hangs", "crooks", "bends", "slips", "costs",
        "moth", "seed", "if", "then", "else", "apart", "bent", "wide", "rank", "night", "crooked", "beside", "which", "nail");
    static final List<String> VARS = WORDS.subList(12, 21);

    static final class Parser {
        final String bytes;
        final Text text = new Text();
        int next = 0;
        int tokens = 0;
        String token;
        char kind; // n name, i int, w word, s sign, e end, x none
        int place;
        Fault sense;
        final List<String> hangerNames = new ArrayList<>();
        final List<String> personNames = new ArrayList<>();
        int hangs = 0;

        Parser(String bytes) { this.bytes = bytes; }

        void sense(int number) {
            if (sense == null) sense = new Fault(number, place);
        }

        void advance() {
            while (next < bytes.length() && "\t\n\r ".indexOf(bytes.charAt(next)) >= 0) next++;
            place = next;
            if (next == bytes.length()) { kind = 'e'; token = ""; return; }
            String rest = bytes.substring(next);
            java.util.regex.Matcher m = java.util.regex.Pattern.compile("^([a-z]+|[0-9]+|[-;=+*/<()])").matcher(rest);
            tokens++;
            if (!m.find()) { kind = 'x'; token = ""; return; }
            token = m.group();
            next += token.length();
            char c = token.charAt(0);
            if (c >= 'a' && c <= 'z') kind = token.length() > 8 ? 'x' : WORDS.contains(token) ? 'w' : 'n';
            else if (c >= '0' && c <= '9') kind = token.length() > 4 ? 'x' : 'i';
            else kind = 's';
        }

        boolean is(String t) { return (kind == 'w' || kind == 's') && token.equals(t); }

        void accept(boolean ok) {
            if (!ok) throw new Fault(1, place);
            if (tokens > 400) throw new Fault(2, place);
            advance();
        }

        void eat(String t) { accept(is(t)); }

        Text parse() {
            advance();
            while (kind != 'e') tell();
            if (sense != null) throw sense;
            return text;
        }

        int number(int most) {
            if (kind == 'i' && Integer.parseInt(token) > most) sense(5);
            String t = token;
            accept(kind == 'i');
            return Integer.parseInt(t);
        }

        void tell() {
            if (kind != 'w') throw new Fault(1, place);
            String t = token;
            switch (t) {
                case "hanger": {
                    if (text.hangers.size() == 7) throw new Fault(2, place);
                    accept(true);
                    String n = newName();
                    text.hangers.add(new int[] {number(4), number(99)});
                    hangerNames.add(n);
                    break;
                }
                case "person": {
                    if (text.people.size() == 6) throw new Fault(2, place);
                    accept(true);
                    String n = newName();
                    text.people.add(new int[] {number(99), number(9)});
                    personNames.add(n);
                    break;
                }
                case "hangs": {
                    if (hangs++ == 6) throw new Fault(2, place);
                    accept(true);
                    int p = personNames.indexOf(token);
                    if (p < 0) sense(4); else if (text.hangs.containsKey(p)) sense(3);
                    accept(kind == 'n');
                    int h = hangerNames.indexOf(token);
                    if (h < 0) sense(4); else if (text.hangs.containsValue(h)) sense(3);
                    accept(kind == 'n');
                    text.hangs.put(p, h);
                    break;
                }
                case "crooks": case "bends": case "slips": case "costs":
                    accept(true);
                    eat("=");
                    text.laws.put(t, law());
                    break;
                case "moth":
                    accept(true);
                    text.moth = number(100);
                    break;
                case "seed":
                    accept(true);
                    text.seed = number(9999);
                    break;
                default:
                    throw new Fault(1, place);
            }
            eat(";");
        }

        String newName() {
            String n = token;
            if (kind == 'n' && (hangerNames.contains(n) || personNames.contains(n))) sense(3);
            accept(kind == 'n');
            return n;
        }

        Law law() {
            Law l = new Law();
            while (is("if")) {
                if (l.branches.size() == 4) throw new Fault(2, place);
                accept(true);
                Branch b = new Branch();
                b.less = sum(0);
                eat("<");
                b.more = sum(0);
                eat("then");
                b.then = sum(0);
                eat("else");
                l.branches.add(b);
            }
            l.last = sum(0);
            return l;
        }

        Expr sum(int deep) {
            Expr left = part(deep);
            while (is("+") || is("-")) {
                boolean plus = is("+");
                accept(true);
                Expr a = left, b = part(deep);
                left = plus ? v -> a.value(v) + b.value(v) : v -> a.value(v) - b.value(v);
            }
            return left;
        }

        Expr part(int deep) {
            Expr left = unit(deep);
            while (is("*") || is("/")) {
                boolean times = is("*");
                accept(true);
                Expr a = left, b = unit(deep);
                left = times ? v -> a.value(v) * b.value(v) : v -> divided(a.value(v), b.value(v));
            }
            return left;
        }

        static int divided(int a, int b) {
            if (b == 0) throw new DividedByZero();
            return (int) ((long) a / (long) b);
        }

        Expr unit(int deep) {
            if (kind == 'i') {
                int n = Integer.parseInt(token);
                accept(true);
                return v -> n;
            }
            if (kind == 'w' && VARS.contains(token)) {
                String t = token;
                accept(true);
                return v -> v.get(t);
            }
            if (is("(")) {
                if (deep == 6) throw new Fault(2, place);
                accept(true);
                Expr e = sum(deep + 1);
                eat(")");
                return e;
            }
            throw new Fault(1, place);
        }
    }

    // ---- what goes on

    static final class World {
        int night;
        int[] wide, on, self, crooked, bent;

        World copy() {
            World w = new World();
            w.night = night;
            w.wide = wide.clone();
            w.on = on.clone();
            w.self = self.clone();
            w.crooked = crooked.clone();
            w.bent = bent.clone();
            return w;
        }
    }

    StringBuilder tape = new StringBuilder();
    int place = NONE;
    Text text = new Text();
    World world = fresh();
    List<World> past = new ArrayList<>();
    World[] slots = new World[3];
    List<int[]> told = new ArrayList<>();

    int people() { return text.people.size(); }
    int hangers() { return text.hangers.size(); }
    boolean isP(int p) { return p >= 0 && p < people(); }
    boolean isH(int h) { return h >= 0 && h < hangers(); }

    World fresh() {
        World w = new World();
        int n = text.people.size();
        w.wide = new int[n];
        w.on = new int[n];
        w.self = new int[n];
        w.crooked = new int[n];
        w.bent = new int[text.hangers.size()];
        for (int p = 0; p < n; p++) {
            w.wide[p] = text.people.get(p)[0];
            w.on[p] = text.hangs.getOrDefault(p, -2);
            w.self[p] = p;
        }
        return w;
    }

    int nail(int h) { return text.hangers.get(h)[0]; }

    int beside(World w, int p) {
        int n = 0;
        if (w.on[p] < 0) return 0;
        for (int q = 0; q < people(); q++) {
            if (q != p && w.on[q] >= 0 && nail(w.on[q]) == nail(w.on[p])) n++;
        }
        return n;
    }

    int law(World w, String name, int p, int h, int beside) {
        Map<String, Integer> v = new HashMap<>();
        v.put("apart", Math.abs(w.wide[p] - text.hangers.get(h)[1]) + w.bent[h]);
        v.put("bent", w.bent[h]);
        v.put("wide", w.wide[p]);
        v.put("rank", text.people.get(p)[1]);
        v.put("night", w.night);
        v.put("crooked", w.crooked[p]);
        v.put("beside", beside);
        v.put("which", p);
        v.put("nail", nail(h));
        return text.laws.get(name).value(v, name.equals("slips") ? 100 : 99);
    }

    int costs(World w) {
        int sum = 0;
        for (int p = 0; p < people(); p++) if (w.on[p] >= 0) sum += law(w, "costs", p, w.on[p], beside(w, p));
        return sum;
    }

    static int lot(int n, int seed, int which) {
        int h = seed;
        for (int it : new int[] {159, which}) {
            h = (h ^ it) * 1103515245 + 12345;
            h = h ^ (h >>> 15);
        }
        return (int) ((((long) h & 0xffffffffL) >> 1) % n);
    }

    World night(World was, int seed, boolean all) {
        World w = was.copy();
        Map<Integer, List<Integer>> byNail = new HashMap<>();
        for (int p = 0; p < people(); p++) {
            int h = was.on[p];
            if (h < 0) { w.crooked[p] = 0; continue; }
            w.crooked[p] = Math.min(999, was.crooked[p] + law(was, "crooks", p, h, beside(was, p)));
            w.bent[h] = Math.min(99, was.bent[h] + law(was, "bends", p, h, beside(was, p)));
            byNail.computeIfAbsent(nail(h), k -> new ArrayList<>()).add(p);
        }
        for (List<Integer> l : byNail.values()) {
            for (int i = 0; i < l.size(); i++) w.self[l.get(i)] = was.self[l.get((i + 1) % l.size())];
        }
        if (all) {
            for (int p = 0; p < people(); p++) {
                if (was.on[p] >= 0 && lot(100, seed, 16 * was.night + p) < law(was, "slips", p, was.on[p], beside(was, p))) w.on[p] = -2;
            }
            if (lot(100, seed, 16 * was.night + 8) < text.moth && people() > 0) {
                int p = lot(people(), seed, 16 * was.night + 9);
                w.wide[p] = Math.max(0, w.wide[p] - 1);
            }
        }
        w.night++;
        return w;
    }

    World nightsOn(World w, int n, int seed, boolean all) {
        for (int i = 0; i < n; i++) w = night(w, seed, all);
        return w;
    }

    // ---- the face

    int feed(int... five) {
        if (tape.length() + 20 > 2000) return NONE;
        for (int x : five) for (int s = 24; s >= 0; s -= 8) tape.append((char) (x >> s & 255));
        return tape.length();
    }

    int back(int n) {
        if (n < 0 || n > tape.length()) return NONE;
        tape.setLength(tape.length() - n);
        return tape.length();
    }

    int read() {
        String bytes = tape.toString();
        tape.setLength(0);
        place = NONE;
        Text t;
        try {
            t = new Parser(bytes).parse();
        } catch (Fault f) {
            place = f.place;
            return f.number;
        }
        text = t;
        world = fresh();
        past.clear();
        told.clear();
        slots = new World[3];
        return 0;
    }

    int place() { return place; }

    int hanger(int h, int what) {
        if (!isH(h)) return NONE;
        if (what == 0 || what == 1) return text.hangers.get(h)[what];
        if (what == 2) return world.bent[h];
        if (what != 3) return NONE;
        return who(h);
    }

    int who(int h) {
        for (int p = 0; p < people(); p++) if (world.on[p] == h) return p;
        return -2;
    }

    int person(int p, int what) {
        if (!isP(p)) return NONE;
        if (what == 0) return world.wide[p];
        if (what == 1) return text.people.get(p)[1];
        if (what == 2) return world.on[p];
        if (what == 3) return world.self[p];
        if (what == 4) return world.crooked[p];
        if (what == 5) return beside(world, p);
        return NONE;
    }

    int tells(int p, int what) {
        if (!isP(p) || what < 0 || what > 3) return NONE;
        if (world.on[p] < 0) return -2;
        return law(world, new String[] {"crooks", "bends", "slips", "costs"}[what], p, world.on[p], beside(world, p));
    }

    void doing() {
        past.add(world.copy());
        if (past.size() > 40) past.remove(0);
    }

    boolean hang(int p, int h) {
        if (!isP(p) || !isH(h) || world.on[p] >= 0 || who(h) >= 0) return false;
        doing();
        world.on[p] = h;
        return true;
    }

    boolean take(int p) {
        if (!isP(p) || world.on[p] < 0) return false;
        doing();
        world.on[p] = -2;
        return true;
    }

    boolean change(int p, int q) {
        if (!isP(p) || !isP(q) || p == q || world.on[p] < 0 || world.on[q] < 0) return false;
        doing();
        world = changed(world, p, q);
        return true;
    }

    static World changed(World was, int p, int q) {
        World w = was.copy();
        w.on[p] = was.on[q];
        w.on[q] = was.on[p];
        return w;
    }

    boolean straighten(int h) {
        if (!isH(h) || who(h) >= 0 || world.bent[h] == 0) return false;
        doing();
        world.bent[h] = 0;
        return true;
    }

    int nights(int n) {
        if (n < 0 || n > 60) return NONE;
        if (n > 0) doing();
        world = nightsOn(world, n, text.seed, true);
        return world.night;
    }

    boolean undo() {
        if (past.isEmpty()) return false;
        world = past.remove(past.size() - 1);
        return true;
    }

    /** All ways to put people from p on; each is tried against the best so far. */
    private int[] bestOn;
    private int bestMany, bestCost;

    private void search(int p, int[] on, int without, boolean byNails) {
        if (p == people()) {
            int many = 0, cost = 0;
            for (int q = 0; q < p; q++) if (on[q] >= 0) { many++; cost += law(world, "costs", q, on[q], 0); }
            // the order of the search is the order of the document, so only what is truly better replaces
            if (bestOn == null || many > bestMany || many == bestMany && cost < bestCost) {
                bestOn = on.clone();
                bestMany = many;
                bestCost = cost;
            }
            return;
        }
        for (int h = 0; h < hangers(); h++) {
            boolean can = h != without;
            for (int q = 0; q < p; q++) if (on[q] == h || byNails && on[q] >= 0 && nail(on[q]) == nail(h)) can = false;
            if (!can) continue;
            on[p] = h;
            search(p + 1, on, without, byNails);
        }
        on[p] = -2;
        search(p + 1, on, without, byNails);
    }

    private int plan(int i, boolean byNails) {
        if (i != NONE && !isP(i)) return NONE;
        bestOn = null;
        search(0, new int[people()], -5, byNails);
        return i == NONE ? bestCost : bestOn[i];
    }

    int hanging(int i) { return plan(i, false); }
    int apart(int i) { return plan(i, true); }

    int ways(int v) {
        if (v < 0 || v > 99) return NONE;
        return ways(v, 0, new boolean[5]);
    }

    private int ways(int v, int p, boolean[] nails) {
        if (p == people()) return 1;
        int n = 0;
        for (int h = 0; h < hangers(); h++) {
            if (nails[nail(h)] || law(world, "costs", p, h, 0) > v) continue;
            nails[nail(h)] = true;
            n += ways(v, p + 1, nails);
            nails[nail(h)] = false;
        }
        return n;
    }

    int sets() {
        int[] root = new int[people()];
        for (int p = 0; p < people(); p++) root[p] = p;
        for (int i = 0; i < people(); i++) {
            for (int p = 0; p < people(); p++) {
                int least = Math.min(root[p], root[world.self[p]]);
                root[p] = least;
                root[world.self[p]] = least;
            }
        }
        int n = 0;
        for (int p = 0; p < people(); p++) if (root[p] == p) n++;
        return n;
    }

    int changes() {
        int[] s = world.self.clone();
        int n = 0;
        for (int p = 0; p < s.length; p++) {
            while (s[p] != p) {
                int q = s[p];
                s[p] = s[q];
                s[q] = q;
                n++;
            }
        }
        return n;
    }

    boolean allOwn(World w) {
        for (int p = 0; p < people(); p++) if (w.self[p] != p) return false;
        return true;
    }

    int themselves() {
        World w = world;
        for (int n = 0; n <= 240; n++, w = night(w, 0, false)) if (allOwn(w)) return n;
        return -2;
    }

    int crossed(int what) {
        List<Integer> pairs = new ArrayList<>();
        for (int p = 0; p < people(); p++) {
            for (int q = p + 1; q < people(); q++) if (world.self[p] == q && world.self[q] == p) pairs.add(10 * p + q);
        }
        if (what == 0) return pairs.size();
        if (what == 1) return pairs.isEmpty() ? -2 : pairs.get(0);
        return NONE;
    }

    int fit(int p, int what) {
        if (!isP(p) || what < 0 || what > 1) return NONE;
        if (hangers() == 0) return -2;
        int which = 0;
        for (int h = 0; h < hangers(); h++) {
            if (law(world, "costs", p, h, 0) < law(world, "costs", p, which, 0)) which = h;
        }
        return what == 0 ? which : law(world, "costs", p, which, 0);
    }

    int missed(int what) {
        if (what < 0 || what > 1) return NONE;
        if (hangers() == 0) return -2;
        int which = -1, many = 0, cost = 0;
        for (int h = 0; h < hangers(); h++) {
            bestOn = null;
            search(0, new int[people()], h, false);
            if (which < 0 || bestMany < many || bestMany == many && bestCost > cost) {
                which = h;
                many = bestMany;
                cost = bestCost;
            }
        }
        return what == 0 ? which : cost;
    }

    int[] perNail(World w) {
        int[] n = new int[5];
        for (int p = 0; p < people(); p++) if (w.on[p] >= 0) n[nail(w.on[p])]++;
        return n;
    }

    int crowded(int what) {
        int[] n = perNail(world);
        int which = 0;
        for (int i = 0; i < 5; i++) if (n[i] > n[which]) which = i;
        return what == 0 ? which : what == 1 ? n[which] : NONE;
    }

    int straight() {
        int which = -2;
        for (int p = people() - 1; p >= 0; p--) {
            if (world.on[p] >= 0 && (which < 0 || world.crooked[p] <= world.crooked[which])) which = p;
        }
        return which;
    }

    int bill(int n) {
        if (n < 0 || n > 60) return NONE;
        int sum = 0;
        World w = world;
        for (int i = 0; i < n; i++, w = night(w, 0, false)) sum += costs(w);
        return sum;
    }

    int swap(int what) {
        if (what < 0 || what > 1) return NONE;
        int which = -2, by = 0;
        for (int p = 0; p < people(); p++) {
            for (int q = p + 1; q < people(); q++) {
                if (world.on[p] < 0 || world.on[q] < 0) continue;
                int less = costs(world) - costs(changed(world, p, q));
                if (less > by) { by = less; which = 10 * p + q; }
            }
        }
        return which == -2 || what == 0 ? which : by;
    }

    int round() {
        World w = world;
        for (int n = 1; n <= 240; n++) {
            w = night(w, 0, false);
            if (Arrays.equals(w.self, world.self)) return n;
        }
        return -2;
    }

    int upright(int n, int v) {
        if (n < 0 || n > 60 || v < 1 || v > 999) return NONE;
        World w = nightsOn(world, n, 0, false);
        int bits = 0;
        for (int p = 0; p < people(); p++) if (w.crooked[p] < v) bits += 1 << p;
        return bits;
    }

    int holder(int self) {
        for (int p = 0; p < people(); p++) if (world.self[p] == self) return p;
        return NONE;
    }

    int free(int what) {
        if (what < 0 || what > 1) return NONE;
        int which = -2;
        for (int h = 0; h < hangers(); h++) {
            if (who(h) < 0 && (which < 0 || text.hangers.get(h)[1] > text.hangers.get(which)[1])) which = h;
        }
        return which < 0 || what == 0 ? which : text.hangers.get(which)[1];
    }

    int day(int p) {
        if (!isP(p)) return NONE;
        World w = world;
        for (int n = 0; n <= 240; n++, w = night(w, 0, false)) if (w.self[p] == p) return n;
        return -2;
    }

    int then(int p, int n, int what) {
        if (!isP(p) || n < 0 || n > 60 || what < 0 || what > 2) return NONE;
        World w = nightsOn(world, n, text.seed, true);
        return what == 0 ? w.self[p] : what == 1 ? w.crooked[p] : w.on[p];
    }

    int bentIn(int h, int n) {
        if (!isH(h) || n < 0 || n > 60) return NONE;
        return nightsOn(world, n, text.seed, true).bent[h];
    }

    int year(int p, int n, int s) {
        if (!isP(p) || n < 0 || n > 60 || s < 1 || s > 20) return NONE;
        int times = 0;
        for (int i = 0; i < s; i++) if (nightsOn(world, n, text.seed + i, true).on[p] >= 0) times++;
        return times;
    }

    int tell(int p, int self, boolean so) {
        if (told.size() == 20 || !isP(p) || !isP(self)) return NONE;
        told.add(new int[] {p, self, so ? 1 : 0});
        return told.size() - 1;
    }

    int forget() {
        int n = told.size();
        told.clear();
        return n;
    }

    List<Integer> pairs(int k) {
        List<Integer> left = new ArrayList<>();
        for (int p = 0; p < people(); p++) {
            for (int q = p + 1; q < people(); q++) {
                if (world.on[p] < 0 || world.on[q] < 0) continue;
                World w = night(changed(world, p, q), text.seed, true);
                boolean ok = true;
                for (int[] t : told.subList(0, k)) ok &= (w.self[t[0]] == t[1]) == (t[2] == 1);
                if (ok) left.add(10 * p + q);
            }
        }
        return left;
    }

    int two(int k, int i) {
        if (k < 0 || k > told.size() || i < NONE) return NONE;
        List<Integer> left = pairs(k);
        if (i == NONE) return left.size();
        return i < left.size() ? left.get(i) : NONE;
    }

    int ask(int k) {
        if (k < 0 || k > told.size()) return NONE;
        List<Integer> left = pairs(k);
        if (left.isEmpty()) return -2;
        int which = -1, least = 0;
        for (int p = 0; p < people(); p++) {
            int worst = 0;
            for (int self = 0; self < people(); self++) {
                int n = 0;
                for (int pair : left) {
                    if (night(changed(world, pair / 10, pair % 10), text.seed, true).self[p] == self) n++;
                }
                worst = Math.max(worst, n);
            }
            if (which < 0 || worst < least) { which = p; least = worst; }
        }
        return which;
    }

    boolean hold(int slot) {
        if (slot < 0 || slot > 2) return false;
        slots[slot] = world.copy();
        return true;
    }

    boolean restore(int slot) {
        if (slot < 0 || slot > 2 || slots[slot] == null) return false;
        world = slots[slot].copy();
        past.clear();
        return true;
    }

    int count(int what) {
        int n = 0;
        switch (what) {
            case 0: return hangers();
            case 1: return people();
            case 2: return world.night;
            case 3: for (int p = 0; p < people(); p++) if (world.on[p] >= 0) n += 1 << p; return n;
            case 4: for (int h = 0; h < hangers(); h++) if (who(h) >= 0) n += 1 << h; return n;
            case 5: for (int p = 0; p < people(); p++) if (world.self[p] == p) n += 1 << p; return n;
            case 6: for (int c : world.crooked) n += c; return n;
            case 7: for (int b : world.bent) n += b; return n;
            case 8: return tape.length();
            case 9: return past.size();
            case 10: return told.size();
            case 11: for (World w : slots) if (w != null) n++; return n;
            case 12: return lot(100, text.seed, 16 * world.night + 8) < text.moth ? 1 : 0;
            case 13: return costs(world);
            case 14: for (int i = 0; i < 5; i++) if (perNail(world)[i] >= 2) n += 1 << i; return n;
            default: return NONE;
        }
    }
}
