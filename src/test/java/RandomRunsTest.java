import java.util.ArrayList;
import java.util.List;
import java.util.Random;

/** Random runs of calls, whose answers are compared with those of the Model. The seeds are fixed. */
public final class RandomRunsTest {
    private static int wrong = 0;

    private final Random random;
    private final CoatHangers x = new CoatHangers();
    private final Model m = new Model();
    private final List<String> log = new ArrayList<>();

    private RandomRunsTest(long seed) {
        random = new Random(seed);
    }

    public static void main(String[] args) {
        int runs = args.length > 0 ? Integer.parseInt(args[0]) : 600;
        for (int seed = 0; seed < runs && wrong < 5; seed++) new RandomRunsTest(seed).run(seed);
        int texts = args.length > 0 ? 20 * runs : 20000;
        for (int seed = 0; seed < texts && wrong < 5; seed++) new RandomRunsTest(1000000L + seed).readOne(seed);
        System.out.println(wrong == 0 ? "random runs are as the model's" : wrong + " random runs are not as the model's");
        if (wrong != 0) System.exit(1);
    }

    private int upTo(int most) { return random.nextInt(most + 1); }
    private boolean oneOf(int n) { return random.nextInt(n) == 0; }

    // ---- texts

    private String expr(int deep) {
        StringBuilder s = new StringBuilder(unit(deep));
        int more = random.nextInt(3);
        for (int i = 0; i < more; i++) s.append(gap()).append("+-*/".charAt(upTo(3))).append(gap()).append(unit(deep));
        return s.toString();
    }

    private String gap() { return oneOf(3) ? "" : oneOf(9) ? "\n\t" : " "; }

    private String unit(int deep) {
        int k = random.nextInt(10);
        if (k < 3) return "" + (oneOf(8) ? upTo(9999) : oneOf(3) ? upTo(99) : upTo(4));
        if (k < 8 || deep >= 6) return Model.VARS.get(upTo(8));
        return "(" + gap() + expr(deep + 1) + gap() + ")";
    }

    private String law(String name) {
        StringBuilder s = new StringBuilder(name).append(gap()).append("=");
        int ifs = oneOf(2) ? 0 : oneOf(10) ? upTo(5) : upTo(2);
        for (int i = 0; i < ifs; i++) {
            s.append(" if ").append(expr(0)).append(gap()).append("<").append(gap()).append(expr(0));
            s.append(" then ").append(expr(0)).append(" else ");
        }
        return s.append(" ").append(expr(0)).append(";").toString();
    }

    private String text() {
        StringBuilder s = new StringBuilder();
        int hangers = oneOf(12) ? 0 : oneOf(30) ? 8 : 1 + upTo(6);
        int people = oneOf(12) ? 0 : oneOf(30) ? 7 : 1 + upTo(5);
        int nails = 1 + upTo(4);
        int spread = oneOf(2) ? 5 : 99;
        for (int h = 0; h < hangers; h++) {
            s.append("hanger h").append((char) ('a' + h)).append(' ').append(random.nextInt(nails)).append(' ').append(upTo(spread)).append(';');
        }
        for (int p = 0; p < people; p++) {
            s.append("person p").append((char) ('a' + p)).append(' ').append(upTo(spread)).append(' ').append(upTo(9)).append(";");
        }
        for (int p = 0; p < people && p < hangers; p++) {
            if (oneOf(6)) continue;
            s.append("hangs p").append((char) ('a' + p)).append(" h").append((char) ('a' + (oneOf(40) ? upTo(6) : hangers - 1 - p))).append(";");
        }
        for (String name : new String[] {"crooks", "bends", "slips", "costs"}) {
            if (oneOf(3)) s.append(law(name));
        }
        if (oneOf(4)) s.append("slips = ").append(upTo(12)).append(";");
        if (oneOf(3)) s.append("bends = ").append(upTo(3)).append(";");
        if (oneOf(2)) s.append("moth ").append(oneOf(30) ? 101 : upTo(100)).append(";");
        if (oneOf(2)) s.append("seed ").append(oneOf(5) ? 9990 + upTo(9) : upTo(9999)).append(";");
        if (oneOf(9)) s.append(law("costs"));
        String all = s.toString();
        return all.length() > 1980 ? all.substring(0, 1980) : all;
    }

    /** One sign or a few changed, taken away or put in. */
    private String spoiled(String text) {
        StringBuilder s = new StringBuilder(text);
        String signs = ";=+-*/<() .:AZ\t\r0159abhpz" + (char) 0 + (char) 200;
        String[] parts = {"if ", "((((((", "(", ")", " then ", " else ", "hanger ", "person ", "hangs ", ";", "12345", "abcdefghi", " 100 ", " 7 ", "moth "};
        int times = 1 + upTo(2);
        for (int i = 0; i < times; i++) {
            int at = upTo(s.length());
            int k = upTo(3);
            if (k == 0 && at < s.length()) s.setCharAt(at, signs.charAt(random.nextInt(signs.length())));
            else if (k == 1 && at < s.length()) s.delete(at, Math.min(s.length(), at + 1 + upTo(3)));
            else if (k == 2) s.insert(at, parts[random.nextInt(parts.length)]);
            else if (at < s.length() && oneOf(3)) s.setLength(at);
        }
        return s.length() > 1980 ? s.substring(0, 1980) : s.toString();
    }

    /** Texts of many TOKENS, about as many as there may be. */
    private String manyTokens() {
        StringBuilder s = new StringBuilder("costs=1");
        int more = 192 + upTo(8);
        for (int i = 0; i < more; i++) s.append(oneOf(2) ? "+1" : "*wide");
        s.append(";");
        for (int i = 0; i < 3; i++) if (oneOf(2)) s.append(oneOf(2) ? "moth 1;" : oneOf(2) ? "seed 9 9" : "?");
        return s.toString();
    }

    private void put(String text) {
        for (int from = 0; from < text.length(); from += 20) {
            int[] f = Texts.twenty(text, from);
            same("feed", x.feed(f[0], f[1], f[2], f[3], f[4]), m.feed(f));
        }
        int n = (20 - text.length() % 20) % 20;
        same("back " + n, x.back(n), m.back(n));
    }

    private void readOne(int seed) {
        log.add("texts " + seed);
        String t = oneOf(12) ? manyTokens() : oneOf(4) ? text() : spoiled(text());
        log.add(t);
        put(t);
        same("read", x.read(), m.read());
        same("place", x.place(), m.place());
        for (int what = 0; what <= 14; what++) same("count " + what, x.count(what), m.count(what));
        for (int p = 0; p < 6; p++) for (int what = 0; what < 4; what++) same("tells " + p + " " + what, x.tells(p, what), m.tells(p, what));
        report("texts", seed);
    }

    // ---- calls

    private void run(int seed) {
        log.add("run " + seed);
        int calls = 40 + upTo(200);
        for (int i = 0; i < calls && bad == null; i++) {
            if (i == 0 ? !oneOf(10) : oneOf(50)) {
                String t = i == 0 ? text() : oneOf(4) ? spoiled(text()) : text();
                log.add("text: " + t);
                put(t);
                same("read", x.read(), m.read());
                same("place", x.place(), m.place());
            }
            act();
        }
        for (int what = -1; what <= 15 && bad == null; what++) same("count " + what, x.count(what), m.count(what));
        report("run", seed);
    }

    private String bad;

    private void report(String kind, int seed) {
        if (bad == null) return;
        wrong++;
        System.out.println(kind + " " + seed + ": " + bad);
        for (String s : log) System.out.println("    " + s);
    }

    private void same(String call, int got, int due) {
        if (bad == null) log.add(call + " -> " + got);
        if (got != due && bad == null) bad = call + " answered " + got + ", the model " + due;
    }

    private void same(String call, boolean got, boolean due) { same(call, got ? 1 : 0, due ? 1 : 0); }

    /** Mostly one that there is; now and then one that there is not. */
    private int index(int many) { return oneOf(25) ? new int[] {-2, -1, many, many + 1, Integer.MAX_VALUE, Integer.MIN_VALUE}[upTo(5)] : many == 0 ? 0 : random.nextInt(many); }

    private int nightsAhead() { return oneOf(12) ? new int[] {-1, 60, 61, 0}[upTo(3)] : oneOf(4) ? upTo(60) : upTo(5); }

    private void act() {
        int p = index(m.people()), q = index(m.people()), h = index(m.hangers());
        switch (random.nextInt(44)) {
            case 0: { int w = index(4); same("hanger " + h + " " + w, x.hanger(h, w), m.hanger(h, w)); break; }
            case 1: { int w = index(6); same("person " + p + " " + w, x.person(p, w), m.person(p, w)); break; }
            case 2: { int w = index(4); same("tells " + p + " " + w, x.tells(p, w), m.tells(p, w)); break; }
            case 3: case 4: same("hang " + p + " " + h, x.hang(p, h), m.hang(p, h)); break;
            case 5: same("take " + p, x.take(p), m.take(p)); break;
            case 6: case 7: same("change " + p + " " + q, x.change(p, q), m.change(p, q)); break;
            case 8: same("straighten " + h, x.straighten(h), m.straighten(h)); break;
            case 9: case 10: { int n = nightsAhead(); same("nights " + n, x.nights(n), m.nights(n)); break; }
            case 11: undoSome(); break;
            case 12: { int i = oneOf(3) ? -1 : p; same("hanging " + i, x.hanging(i), m.hanging(i)); break; }
            case 13: { int i = oneOf(3) ? -1 : p; same("apart " + i, x.apart(i), m.apart(i)); break; }
            case 14: { int v = oneOf(9) ? index(100) : upTo(99); same("ways " + v, x.ways(v), m.ways(v)); break; }
            case 15: same("sets", x.sets(), m.sets()); break;
            case 16: same("changes", x.changes(), m.changes()); break;
            case 17: same("themselves", x.themselves(), m.themselves()); break;
            case 18: { int w = index(2); same("crossed " + w, x.crossed(w), m.crossed(w)); break; }
            case 19: { int w = index(2); same("fit " + p + " " + w, x.fit(p, w), m.fit(p, w)); break; }
            case 20: { int w = index(2); if (oneOf(3)) same("missed " + w, x.missed(w), m.missed(w)); break; }
            case 21: { int w = index(2); same("crowded " + w, x.crowded(w), m.crowded(w)); break; }
            case 22: same("straight", x.straight(), m.straight()); break;
            case 23: { int n = nightsAhead(); same("bill " + n, x.bill(n), m.bill(n)); break; }
            case 24: { int w = index(2); same("swap " + w, x.swap(w), m.swap(w)); break; }
            case 25: same("round", x.round(), m.round()); break;
            case 26: { int n = nightsAhead(), v = oneOf(5) ? new int[] {0, 1, 999, 1000, -1}[upTo(4)] : upTo(300); same("upright " + n + " " + v, x.upright(n, v), m.upright(n, v)); break; }
            case 27: same("holder " + p, x.holder(p), m.holder(p)); break;
            case 28: { int w = index(2); same("free " + w, x.free(w), m.free(w)); break; }
            case 29: same("day " + p, x.day(p), m.day(p)); break;
            case 30: { int n = nightsAhead(), w = index(3); same("then " + p + " " + n + " " + w, x.then(p, n, w), m.then(p, n, w)); break; }
            case 31: { int n = nightsAhead(); same("bentIn " + h + " " + n, x.bentIn(h, n), m.bentIn(h, n)); break; }
            case 32: { int n = nightsAhead(), s = index(20) + 1; same("year " + p + " " + n + " " + s, x.year(p, n, s), m.year(p, n, s)); break; }
            case 33: case 34: case 35: tellSome(p, q); break;
            case 36: if (oneOf(5)) same("forget", x.forget(), m.forget()); break;
            case 37: { int k = index(m.told.size() + 1), i = upTo(5) - 2; same("two " + k + " " + i, x.two(k, i), m.two(k, i)); break; }
            case 38: { int k = index(m.told.size() + 1); same("ask " + k, x.ask(k), m.ask(k)); break; }
            case 39: { int s = index(3); same("hold " + s, x.hold(s), m.hold(s)); break; }
            case 40: { int s = index(3); same("restore " + s, x.restore(s), m.restore(s)); break; }
            default: { int w = upTo(17) - 1; same("count " + w, x.count(w), m.count(w)); break; }
        }
    }

    private void undoSome() {
        int n = oneOf(20) ? 45 : 1 + upTo(3);
        for (int i = 0; i < n; i++) same("undo", x.undo(), m.undo());
    }

    /** Often what is true for some pair, so that some are left. */
    private void tellSome(int p, int q) {
        boolean so = oneOf(2);
        List<Integer> left = m.pairs(m.told.size());
        if (!left.isEmpty() && m.isP(p) && oneOf(2)) {
            int pair = left.get(random.nextInt(left.size()));
            q = m.night(Model.changed(m.world, pair / 10, pair % 10), 0, false).self[p];
            so = true;
        }
        same("tell " + p + " " + q + " " + so, x.tell(p, q, so), m.tell(p, q, so));
        same("two all", x.two(m.told.size(), -1), m.two(m.told.size(), -1));
    }
}
