/** What the tests of edges share: answers that are due, faults at their places, objects and their twins. */
final class Checks {
    interface Call { int on(CoatHangers x); }
    interface Maker { CoatHangers make(); }

    private static int wrong = 0;
    private static String sentence = "";

    private Checks() { }

    /** The sentence of the document that is tested from here on. */
    static void says(String words) { sentence = words; }

    static void due(String call, long got, long want) {
        if (got != want) fail(call + " answered " + got + ", due is " + want);
    }

    static void yes(String call, boolean got) { due(call, got ? 1 : 0, 1); }
    static void no(String call, boolean got) { due(call, got ? 1 : 0, 0); }

    private static void fail(String what) {
        wrong++;
        System.out.println("'" + sentence + "': " + what);
    }

    static void end(String name) {
        System.out.println(wrong == 0 ? "all " + name + " hold" : wrong + " answers are not as due");
        if (wrong != 0) System.exit(1);
    }

    static CoatHangers world(String text) {
        CoatHangers x = new CoatHangers();
        int fault = Texts.read(x, text);
        if (fault != 0) fail("fault " + fault + " at " + x.place() + " in " + text);
        return x;
    }

    static String times(int n, String part) { return part.repeat(n); }

    /** The place of the fault is where @ stands; the text has none there. Fault 0 has no @. */
    static void fault(int number, String marked) {
        int at = marked.indexOf('@');
        faultAt(number, at, at < 0 ? marked : marked.substring(0, at) + marked.substring(at + 1));
    }

    static void faultAt(int number, int place, String text) {
        CoatHangers x = new CoatHangers();
        due("read() of " + text, Texts.read(x, text), number);
        due("place() of " + text, x.place(), place);
        due("bytes behind read() of " + text, x.count(8), 0);
    }

    /** The call answers so, and behind it the object answers all as a twin of it that was not asked. */
    static void refused(Maker maker, String call, int answer, Call what) {
        CoatHangers x = maker.make();
        due(call, what.on(x), answer);
        alike("behind " + call, x, maker.make());
    }

    static void alike(String when, CoatHangers x, CoatHangers twin) {
        String got = answers(x);
        String want = answers(twin);
        if (!got.equals(want)) fail(when + " it answers\n    " + got + ", due is\n    " + want);
    }

    /** All that can be seen of an object, in less than 400 calls; it is of no use then. */
    private static String answers(CoatHangers x) {
        StringBuilder s = new StringBuilder("place ").append(x.place()).append(" count");
        for (int what = 0; what <= 14; what++) s.append(' ').append(x.count(what));
        s.append(" hangers");
        for (int h = 0; h < 7; h++) for (int what = 0; what < 4; what++) s.append(' ').append(x.hanger(h, what));
        s.append(" people");
        for (int p = 0; p < 6; p++) for (int what = 0; what < 6; what++) s.append(' ').append(x.person(p, what));
        s.append(" laws");
        for (int p = 0; p < 6; p++) for (int what = 0; what < 4; what++) s.append(' ').append(x.tells(p, what));
        s.append(" told");
        int told = x.count(10);
        for (int k = 0; k <= told; k++) s.append(' ').append(x.two(k, -1)).append(' ').append(x.ask(k));
        s.append(" then");
        for (int p = 0; p < 6; p++) s.append(' ').append(x.then(p, 7, 1)).append(' ').append(x.year(p, 9, 9));
        s.append(" undone");
        for (int i = 0; i < 12 && x.undo(); i++) s.append(shortly(x));
        s.append(" restored");
        for (int slot = 0; slot < 3; slot++) if (x.restore(slot)) s.append(' ').append(slot).append(shortly(x));
        return s.append(" read ").append(x.read()).append(' ').append(x.place()).append(shortly(x)).toString();
    }

    private static String shortly(CoatHangers x) {
        StringBuilder s = new StringBuilder(" (");
        for (int what = 0; what <= 7; what++) s.append(x.count(what)).append(' ');
        return s.append(x.count(13)).append(')').toString();
    }
}
