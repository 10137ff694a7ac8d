import java.io.IOException;
import java.lang.reflect.Array;
import java.lang.reflect.Field;
import java.lang.reflect.Method;
import java.lang.reflect.Modifier;
import java.nio.file.Files;
import java.nio.file.Path;
import java.util.ArrayDeque;
import java.util.Collections;
import java.util.Deque;
import java.util.IdentityHashMap;
import java.util.Set;
import java.util.regex.Matcher;
import java.util.regex.Pattern;

/**
 * All calls of one run live in one room: 600,000 objects and arrays, 7.3 million fields and elements. Even a run that
 * does nothing but make objects, 512 of them, fits; no other call makes or lets go of one.
 */
public final class RoomTest {
    private static final int CALLS = 512;
    private static final long MOST_OBJECTS = 600_000;
    private static final long MOST_ELEMENTS = 7_300_000;

    private static final String TEXT = "hanger a 0 10;hanger b 0 20;hanger c 1 30;person p 12 1;person q 25 2;person r 30 3;"
        + "hangs p a;hangs q b;crooks=if apart<9then(apart+1)*2 else rank;bends=1;slips=5;costs=apart+beside;moth 50;seed 3;";

    public static void main(String[] args) throws ReflectiveOperationException, IOException {
        Checks.says("one room");
        CoatHangers x = new CoatHangers();
        Set<Object> made = allOf(x);
        long elements = 0;
        for (Object o : made) elements += sizeOf(o);
        Checks.yes(made.size() + " objects, " + CALLS + " times", made.size() * (long) CALLS <= MOST_OBJECTS);
        Checks.yes(elements + " elements, " + CALLS + " times", elements * CALLS <= MOST_ELEMENTS);
        same("a text", x, made, Texts.read(x, TEXT));
        same("a fault", x, made, Texts.read(x, TEXT + "?"));
        for (int round = 0; round < 3; round++) everyCall(x, made, round);
        newInConstructorsAlone(Files.readString(Path.of("src/main/java/CoatHangers.java")).split("\n"));
        Checks.end("objects");
    }

    private static void everyCall(CoatHangers x, Set<Object> made, int round) throws ReflectiveOperationException {
        for (Method call : CoatHangers.class.getDeclaredMethods()) {
            if (!Modifier.isPublic(call.getModifiers()) || call.getName().equals("read")) continue;
            Class<?>[] types = call.getParameterTypes();
            Object[] a = new Object[types.length];
            for (int i = 0; i < a.length; i++) a[i] = types[i] == boolean.class ? (Object) true : (Object) Integer.valueOf((round + i) % 3);
            same(call.getName(), x, made, call.invoke(x, a));
        }
    }

    private static void same(String call, CoatHangers x, Set<Object> made, Object answer) throws ReflectiveOperationException {
        Checks.yes("the objects behind " + call + ", which answered " + answer, allOf(x).equals(made));
    }

    /** What a call makes and lets go of at once is not seen above, but in the source. */
    private static void newInConstructorsAlone(String[] lines) {
        Pattern head = Pattern.compile("^( {4}| {8})(?! |for |while |if |switch |public [A-Z]|[A-Z]).*\\) \\{$");
        String end = null;
        for (String line : lines) {
            Matcher m = head.matcher(line);
            if (end == null && m.find()) end = m.group(1) + "}";
            else if (line.equals(end)) end = null;
            Checks.no("an object is made in '" + line.strip() + "'", end != null && line.matches(".*\\bnew\\b.*"));
        }
    }

    /** By which object it is, not by what it holds. */
    private static Set<Object> allOf(CoatHangers x) throws ReflectiveOperationException {
        Set<Object> seen = Collections.newSetFromMap(new IdentityHashMap<>());
        Deque<Object> left = new ArrayDeque<>();
        left.add(x);
        while (!left.isEmpty()) {
            Object o = left.remove();
            if (!seen.add(o)) continue;
            if (o instanceof Object[] many) {
                for (Object one : many) if (one != null) left.add(one);
            } else if (!o.getClass().isArray()) {
                for (Field f : o.getClass().getDeclaredFields()) addHeld(f, o, left);
            }
        }
        return seen;
    }

    private static void addHeld(Field f, Object o, Deque<Object> left) throws ReflectiveOperationException {
        if (Modifier.isStatic(f.getModifiers()) || f.getType().isPrimitive()) return;
        f.setAccessible(true);
        Object held = f.get(o);
        if (held != null) left.add(held);
    }

    private static long sizeOf(Object o) {
        if (o.getClass().isArray()) return Array.getLength(o);
        long fields = 0;
        for (Field f : o.getClass().getDeclaredFields()) fields += Modifier.isStatic(f.getModifiers()) ? 0 : 1;
        return fields;
    }
}
