import java.lang.reflect.Constructor;
import java.lang.reflect.Field;
import java.lang.reflect.Method;
import java.lang.reflect.Modifier;
import java.nio.file.Files;
import java.nio.file.Path;
import java.util.ArrayList;
import java.util.Arrays;
import java.util.List;
import java.util.TreeSet;
import java.util.regex.Matcher;
import java.util.regex.Pattern;

/** The public face of the document, and what of LANGUAGE.md can be seen from outside or in the source. */
public final class FaceTest {
    private static final String[] FACE = {
        "feed 1", "end 1", "text 0", "fault 0", "rule 1", "block 2", "step 2", "give 2", "wise 1", "point 2",
        "held 2", "left 3", "shown 2", "where 4", "begin 2", "run 0", "runLeft 0", "told 1", "agree 3", "alter 3",
        "lead 3", "keep 1", "back 1", "sheet 3", "lay 3", "read 4", "torn 0", "count 1"};

    public static void main(String[] args) throws Exception {
        constants();
        methods();
        nested();
        source();
        neverThrows();
        Check.finish();
    }

    private static void constants() {
        Check.due("BAD", PointMaker.BAD, -1);
        Check.due("STATE", PointMaker.STATE, -2);
        Check.due("FULL", PointMaker.FULL, -3);
        Check.due("NONE", PointMaker.NONE, -4);
        TreeSet<String> open = new TreeSet<>();
        for (Field f : PointMaker.class.getDeclaredFields()) {
            if (!Modifier.isPrivate(f.getModifiers())) {
                open.add(f.getName());
            }
            if (Modifier.isStatic(f.getModifiers())) {
                Check.due(f.getName() + " is final", Modifier.isFinal(f.getModifiers()) ? 1 : 0, 1);
            }
        }
        Check.due("open fields", open.toString(), "[BAD, FULL, NONE, STATE]");
    }

    private static void methods() {
        Check.due("the class is final", Modifier.isFinal(PointMaker.class.getModifiers()) ? 1 : 0, 1);
        TreeSet<String> open = new TreeSet<>();
        for (Method m : PointMaker.class.getDeclaredMethods()) {
            if (!Modifier.isPrivate(m.getModifiers())) {
                open.add(m.getName() + " " + m.getParameterCount());
                Check.due(m.getName() + " is public", Modifier.isPublic(m.getModifiers()) ? 1 : 0, 1);
                Check.due(m.getName() + " answers an int", m.getReturnType().getName(), "int");
            }
        }
        Check.due("open methods", open.toString(), new TreeSet<>(Arrays.asList(FACE)).toString());
        Constructor<?>[] makers = PointMaker.class.getDeclaredConstructors();
        Check.due("constructors", makers.length, 1);
        Check.due("its parameters", makers[0].getParameterCount(), 0);
        Check.due("it is public", Modifier.isPublic(makers[0].getModifiers()) ? 1 : 0, 1);
    }

    private static void nested() {
        List<String> names = new ArrayList<>();
        for (String s : FACE) {
            names.add(s.substring(0, s.indexOf(' ')));
        }
        Class<?>[] inside = PointMaker.class.getDeclaredClasses();
        Check.due("some twelve classes", inside.length <= 11 ? 1 : 0, 1);
        for (Class<?> c : inside) {
            Check.due(c.getName() + " is static", Modifier.isStatic(c.getModifiers()) ? 1 : 0, 1);
            for (Method m : c.getDeclaredMethods()) {
                Check.due(m + " bears a public name", names.contains(m.getName()) ? 1 : 0, 0);
                Check.due(m + " has at most 7 parameters", m.getParameterCount() <= 7 ? 1 : 0, 1);
            }
        }
        for (Method m : PointMaker.class.getDeclaredMethods()) {
            if (Modifier.isPrivate(m.getModifiers())) {
                Check.due(m + " bears a public name", names.contains(m.getName()) ? 1 : 0, 0);
            }
        }
    }

    private static void source() throws Exception {
        String s = Files.readString(Path.of("src/main/java/PointMaker.java"));
        s = s.replaceAll("(?s)/\\*.*?\\*/", " ").replaceAll("//[^\n]*", " ");
        String[] never = {"throw", "throws", "try", "catch", "synchronized", "assert", "import", "package",
            "Exact", "lambda", "->", "::", "System\\.out", "protected"};
        for (String word : never) {
            Pattern p = Pattern.compile(Character.isLetter(word.charAt(0)) ? "\\b\\w*" + word + "\\b" : word);
            Matcher m = p.matcher(s);
            while (m.find()) {
                boolean whole = m.group().equals(word) || word.equals("Exact") || !Character.isLetter(word.charAt(0));
                Check.due("'" + m.group() + "' in the source", whole ? 1 : 0, 0);
            }
        }
        for (int i = 0; i < s.length(); i++) {
            if (s.charAt(i) > 126) {
                Check.due("sign " + (int) s.charAt(i), 1, 0);
            }
        }
    }

    private static final int[] NUMBERS = {Integer.MIN_VALUE, -1, 0, 1, 3, 40, 105, Integer.MAX_VALUE};

    /** LANGUAGE.md 7: each call with each of these numbers, in objects of several states. */
    private static void neverThrows() throws Exception {
        for (Method m : PointMaker.class.getDeclaredMethods()) {
            if (!Modifier.isPublic(m.getModifiers())) {
                continue;
            }
            int all = (int) Math.pow(NUMBERS.length, m.getParameterCount());
            for (int state = 0; state < 4; state++) {
                PointMaker x = inState(state);
                for (int i = 0; i < all; i++) {
                    Object[] a = new Object[m.getParameterCount()];
                    int rest = i;
                    for (int j = 0; j < a.length; j++) {
                        a[j] = NUMBERS[rest % NUMBERS.length];
                        rest /= NUMBERS.length;
                    }
                    // An object is for 512 calls.
                    x = i % 200 == 199 ? inState(state) : x;
                    String thrown = "";
                    try {
                        m.invoke(x, a);
                    } catch (java.lang.reflect.InvocationTargetException e) {
                        thrown = e.getCause().toString();
                    }
                    Check.due(m.getName() + Arrays.toString(a) + " throws", thrown, "");
                }
            }
        }
    }

    /** New; with POINTS; with too many of them; with all rows full. */
    private static PointMaker inState(int state) {
        Check c = new Check();
        if (state == 1 || state == 2) {
            c.text("block;set a a less 1;say b;if a 0 1;block;say c;stop;");
            c.x.give(0, state == 1 ? 39 : 99);
            c.x.keep(0);
            c.x.sheet(1, 1, 3);
        }
        if (state == 3) {
            c.text("block;" + "set f 9;".repeat(24) + "if f 0 7;" + "block;stop;".repeat(7));
            c.x.sheet(1, 2, 40);
        }
        return c.x;
    }
}
