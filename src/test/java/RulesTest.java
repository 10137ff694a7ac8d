import java.io.IOException;
import java.lang.reflect.Constructor;
import java.lang.reflect.Field;
import java.lang.reflect.Method;
import java.lang.reflect.Modifier;
import java.nio.file.Files;
import java.nio.file.Path;
import java.util.Arrays;
import java.util.Set;
import java.util.TreeSet;
import java.util.regex.Matcher;
import java.util.regex.Pattern;

/** The document's face, and those rules of LANGUAGE.md that can be seen in the source. */
public final class RulesTest {
    private static final String[] FACE = {
        "int feed(int,int,int,int,int)", "int back(int)", "int read()", "int place()", "int hanger(int,int)",
        "int person(int,int)", "int tells(int,int)", "boolean hang(int,int)", "boolean take(int)",
        "boolean change(int,int)", "boolean straighten(int)", "int nights(int)", "boolean undo()", "int hanging(int)",
        "int apart(int)", "int ways(int)", "int sets()", "int changes()", "int themselves()", "int crossed(int)",
        "int fit(int,int)", "int missed(int)", "int crowded(int)", "int straight()", "int bill(int)", "int swap(int)",
        "int round()", "int upright(int,int)", "int holder(int)", "int free(int)", "int day(int)",
        "int then(int,int,int)", "int bentIn(int,int)", "int year(int,int,int)", "int tell(int,int,boolean)",
        "int forget()", "int two(int,int)", "int ask(int)", "boolean hold(int)", "boolean restore(int)", "int count(int)"};

    private static final String[] FORBIDDEN = {
        "\\bthrow\\b", "\\btry\\b", "\\bcatch\\b", "\\bsynchronized\\b", "\\bassert\\b", "\\bimport\\b", "\\bpackage\\b",
        "->", "::", "\\bException\\b", "\\bdouble\\b", "\\bfloat\\b", "\\bprotected\\b", "\\bstatic\\s*\\{", "Exact\\s*\\(",
        "\\bSystem\\.(?!arraycopy)", "\\bvar\\b", "\\bequals\\b", "\\bhashCode\\b", "\\btoString\\b"};

    private static int wrong = 0;

    private static void must(boolean ok, String what) {
        if (!ok) {
            wrong++;
            System.out.println(what);
        }
    }

    public static void main(String[] args) throws IOException {
        face();
        insideClasses();
        source(Files.readString(Path.of("src/main/java/CoatHangers.java")));
        System.out.println(wrong == 0 ? "the rules are kept" : wrong + " rules are not kept");
        if (wrong != 0) System.exit(1);
    }

    private static void face() {
        must(Modifier.isFinal(CoatHangers.class.getModifiers()), "the class is not final");
        must(CoatHangers.NONE == -1, "NONE is not -1");
        Set<String> due = new TreeSet<>(Arrays.asList(FACE));
        Set<String> got = new TreeSet<>();
        for (Method m : CoatHangers.class.getDeclaredMethods()) {
            if (Modifier.isPrivate(m.getModifiers()) || m.isSynthetic()) continue;
            must(Modifier.isPublic(m.getModifiers()) && !Modifier.isStatic(m.getModifiers()), "not a plain public method: " + m);
            StringBuilder s = new StringBuilder().append(m.getReturnType()).append(' ').append(m.getName()).append('(');
            Class<?>[] types = m.getParameterTypes();
            for (int i = 0; i < types.length; i++) s.append(i == 0 ? "" : ",").append(types[i]);
            got.add(s.append(')').toString());
        }
        must(got.equals(due), "the face is " + got + ", due is " + due);
        for (Field f : CoatHangers.class.getDeclaredFields()) {
            must(Modifier.isPrivate(f.getModifiers()) || f.getName().equals("NONE"), "a field that can be seen: " + f);
        }
        for (Constructor<?> c : CoatHangers.class.getDeclaredConstructors()) {
            must(Modifier.isPublic(c.getModifiers()) && c.getParameterCount() == 0, "a constructor: " + c);
        }
    }

    private static void insideClasses() {
        Set<String> names = new TreeSet<>();
        for (String s : FACE) names.add(s.substring(s.indexOf(' ') + 1, s.indexOf('(')));
        Class<?>[] inside = CoatHangers.class.getDeclaredClasses();
        must(inside.length <= 12, "too many classes: " + inside.length);
        for (Class<?> c : inside) {
            must(Modifier.isStatic(c.getModifiers()) && Modifier.isPrivate(c.getModifiers()), "not private static: " + c);
            int fields = 0;
            for (Field f : c.getDeclaredFields()) {
                boolean isConstant = Modifier.isStatic(f.getModifiers());
                must(!isConstant || Modifier.isFinal(f.getModifiers()), "static state: " + f);
                fields += isConstant ? 0 : 1;
            }
            must(fields <= 20, "too many fields in " + c + ": " + fields);
            for (Method m : c.getDeclaredMethods()) {
                must(!names.contains(m.getName()), "bears a name of the face: " + m);
                must(m.getParameterCount() <= 7, "too many parameters: " + m);
            }
        }
    }

    private static void source(String source) {
        for (int i = 0; i < source.length(); i++) {
            char c = source.charAt(i);
            must(c == '\n' || c >= 32 && c < 127, "a strange sign at " + i);
        }
        String plain = source.replaceAll("(?s)/\\*.*?\\*/", "").replaceAll("//[^\n]*", "").replaceAll("\"[^\"\n]*\"", "TEXT");
        for (String f : FORBIDDEN) {
            Matcher m = Pattern.compile(f).matcher(plain);
            must(!m.find(), "not allowed: " + f);
        }
        must(!plain.contains("TEXT +") && !plain.contains("+ TEXT"), "texts joined by +");
        methodsAreShort(source);
    }

    /** Methods stand 4 or 8 blanks in and end with a } as far in. */
    private static void methodsAreShort(String source) {
        String[] lines = source.split("\n");
        for (int i = 0; i < lines.length; i++) {
            Matcher m = Pattern.compile("^( {4}| {8})(?! )(?!.*\\bclass\\b).*\\) \\{$").matcher(lines[i]);
            if (!m.find()) continue;
            int end = i;
            while (end < lines.length && !lines[end].equals(m.group(1) + "}")) end++;
            must(end - i < 60, "a long method at line " + (i + 1));
        }
    }
}
