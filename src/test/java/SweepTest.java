import java.lang.reflect.Method;
import java.util.Arrays;

/**
 * Every call of the face with every edge of its arguments, in worlds that are empty, small and full: it answers as the
 * Model does, and so do all counts behind it.
 */
public final class SweepTest {
    private static final int[] EDGES = {Integer.MIN_VALUE, -61, -2, -1, 0, 1, 2, 3, 4, 5, 6, 7, 8, 14, 15, 19, 20, 21, 31, 32, 33,
        59, 60, 61, 99, 100, 101, 998, 999, 1000, Integer.MAX_VALUE};
    /** Of calls with three arguments. */
    private static final int[] FEWER = {Integer.MIN_VALUE, -1, 0, 1, 2, 3, 5, 6, 20, 21, 60, 61, Integer.MAX_VALUE};

    private static final String HANGERS = "hanger a 0 10;hanger b 0 20;hanger c 1 30;hanger d 1 40;hanger e 2 50;hanger f 3 60;hanger g 4 70;";
    private static final String PEOPLE = "person p 15 0;person q 28 1;person r 30 2;person s 44 3;person t 9 4;person u 60 9;";
    private static final String LAWS = "crooks=apart/2+rank;bends=rank/2+1;slips=crooked/60;costs=apart+beside*rank;moth 50;seed 4711;";
    private static final String[] TEXTS = {
        "", "person p 5 5;", "hanger h 4 5;", "hanger h 4 5;person p 5 5;hangs p h;",
        "hanger a 2 10;hanger b 2 20;hanger c 1 30;person p 12 1;person q 25 2;person r 30 3;hangs p a;hangs q b;" + LAWS,
        HANGERS + PEOPLE + LAWS, HANGERS + PEOPLE + "hangs p a;hangs q b;hangs r c;hangs s d;hangs t e;hangs u f;" + LAWS,
        HANGERS.replaceAll("(hanger \\w) \\d", "$1 3") + PEOPLE + "hangs p g;hangs q f;hangs r e;hangs s d;hangs t c;hangs u b;slips=50;seed 9990;"};

    private static int wrong = 0;
    private static int calls;
    private static CoatHangers x;
    private static Model m;

    public static void main(String[] args) throws ReflectiveOperationException {
        for (String text : TEXTS) {
            for (int nights : new int[] {0, 1, 60}) {
                for (Method call : CoatHangers.class.getDeclaredMethods()) {
                    boolean isOfFace = java.lang.reflect.Modifier.isPublic(call.getModifiers());
                    if (isOfFace && !call.getName().equals("feed") && wrong < 20) sweep(text, nights, call);
                }
            }
        }
        System.out.println(wrong == 0 ? "all calls are as the model's" : wrong + " calls are not as the model's");
        if (wrong != 0) System.exit(1);
    }

    private static void begin(String text, int nights) {
        x = new CoatHangers();
        m = new Model();
        Texts.read(x, text);
        for (int from = 0; from < text.length(); from += 20) m.feed(Texts.twenty(text, from));
        m.read();
        x.nights(nights);
        m.nights(nights);
        x.hold(1);
        m.hold(1);
        x.tell(0, 0, false);
        m.tell(0, 0, false);
        x.feed(0x3b3b3b3b, 0, 0, 0, 0);
        m.feed(0x3b3b3b3b, 0, 0, 0, 0);
        calls = 6 + (text.length() + 19) / 20 + 2;
    }

    private static void sweep(String text, int nights, Method call) throws ReflectiveOperationException {
        Class<?>[] types = call.getParameterTypes();
        Method due = Model.class.getDeclaredMethod(call.getName(), types);
        int[] edges = types.length > 2 ? FEWER : EDGES;
        int all = 1;
        for (Class<?> type : types) all *= type == boolean.class ? 2 : edges.length;
        begin(text, nights);
        for (int i = 0; i < all && wrong < 20; i++) {
            if (calls > 480) begin(text, nights);
            compare(text, nights, call, due, arguments(types, edges, i));
        }
    }

    private static Object[] arguments(Class<?>[] types, int[] edges, int number) {
        Object[] a = new Object[types.length];
        for (int i = 0, rest = number; i < types.length; i++) {
            boolean isBoolean = types[i] == boolean.class;
            int many = isBoolean ? 2 : edges.length;
            if (isBoolean) a[i] = rest % many == 1;
            else a[i] = edges[rest % many];
            rest /= many;
        }
        return a;
    }

    private static void compare(String text, int nights, Method call, Method due, Object[] a) throws ReflectiveOperationException {
        String what = call.getName() + Arrays.toString(a) + " behind " + nights + " nights of " + text;
        same(what, call.invoke(x, a), due.invoke(m, a));
        calls++;
        if (calls % 4 != 0) return;
        for (int i = 2; i <= 11; i++) same("count(" + i + ") behind " + what, x.count(i), m.count(i));
        calls += 10;
    }

    private static void same(String what, Object got, Object due) {
        if (got.equals(due)) return;
        wrong++;
        System.out.println(what + " answered " + got + ", the model " + due);
    }
}
