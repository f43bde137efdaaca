import java.lang.reflect.Field;
import java.lang.reflect.Method;
import java.lang.reflect.Modifier;
import java.nio.file.Files;
import java.nio.file.Path;
import java.util.Arrays;
import java.util.List;
import java.util.TreeSet;
import java.util.regex.Matcher;
import java.util.regex.Pattern;

/** The public face, what can be looked up of the language's rules, and calls with wild numbers. */
public final class FaceTest {
    private static final String FACE = "word 2, put 5, strike 2, move 4, words 2, note 3, tie 3, back 2, give 3, keep 1, "
        + "firm 1, change 2, came 2, say 2, seen 2, piece 3, at 4, seek 3, digest 1, clash 3, settle 4, rule 2, yes 2, "
        + "open 1, fold 2, lead 4, stale 3, offer 4, pair 3, term 3, unlike 3, edition 4, pages 2, onPage 3, line 3, "
        + "index 3, reach 3, told 1";
    private static final String CONSTANTS = "UNKNOWN -1, OUTSIDE -2, STATE -3, FULL -4, NO -5, NONE -6, LOST -100";
    private static final Path SOURCE = Path.of("src/main/java/BookHouse.java");

    private static TreeSet<String> listed(String list) {
        return new TreeSet<>(Arrays.asList(list.split(", ")));
    }

    private static void face() {
        Check.that("0 the face: every method of the document and no other", c -> {
            TreeSet<String> open = new TreeSet<>();
            TreeSet<String> names = new TreeSet<>();
            for (Method m : BookHouse.class.getDeclaredMethods()) {
                if (Modifier.isPrivate(m.getModifiers())) continue;
                open.add(m.getName() + " " + m.getParameterCount());
                names.add(m.getName());
                c.due(Modifier.isPublic(m.getModifiers()) && !Modifier.isStatic(m.getModifiers()));
                c.due(m.getReturnType() == (m.getName().equals("digest") ? long.class : int.class));
                for (Class<?> type : m.getParameterTypes()) c.due(type == int.class);
            }
            c.due(open.equals(listed(FACE)));
            c.due(38, names.size());
            for (Class<?> inside : BookHouse.class.getDeclaredClasses()) {
                c.due(Modifier.isStatic(inside.getModifiers()) && !Modifier.isPublic(inside.getModifiers()));
                for (Method m : inside.getDeclaredMethods()) c.due(!names.contains(m.getName()));
            }
            for (Method m : BookHouse.class.getDeclaredMethods()) {
                c.due(Modifier.isPublic(m.getModifiers()) == names.contains(m.getName()));
            }
        });
        Check.that("0 the face: the class, its constructor and constants", c -> {
            c.due(Modifier.isPublic(BookHouse.class.getModifiers()) && Modifier.isFinal(BookHouse.class.getModifiers()));
            c.due(1, BookHouse.class.getDeclaredConstructors().length);
            c.due(1, BookHouse.class.getConstructors().length);
            c.due(0, BookHouse.class.getConstructors()[0].getParameterCount());
            TreeSet<String> open = new TreeSet<>();
            for (Field f : BookHouse.class.getDeclaredFields()) {
                if (Modifier.isPrivate(f.getModifiers())) continue;
                c.due(f.getModifiers() == (Modifier.PUBLIC | Modifier.STATIC | Modifier.FINAL));
                try {
                    open.add(f.getName() + " " + f.getInt(null));
                } catch (IllegalAccessException hidden) {
                    c.due(false);
                }
            }
            c.due(open.equals(listed(CONSTANTS)));
        });
    }

    private static String source() {
        try {
            String text = Files.readString(SOURCE);
            return text.replaceAll("(?s)/\\*.*?\\*/", "").replaceAll("//[^\n]*", "");
        } catch (java.io.IOException missing) {
            return "throw";
        }
    }

    private static void language() {
        Check.that("0 the language: nothing that the rules leave out", c -> {
            String code = source();
            List<String> out = List.of("\\bthrow\\b", "\\btry\\b", "\\bcatch\\b", "\\bsynchronized\\b", "\\bassert\\b",
                "\\bimport\\b", "\\bpackage\\b", "->", "::", "\"", "\\bequals\\b", "\\bhashCode\\b", "\\btoString\\b",
                "\\bprotected\\b", "Exact\\b", "\\bObject\\b", "\\bnull\\b", "@", "\\?\\s*>", "\\bRandom\\b",
                "currentTime", "nanoTime", "\\bSystem\\.(?!arraycopy)", "\\bMath\\.(?!min|max)",
                "\\bstatic\\s*\\{", "\\bgoto\\b", "\\bstrictfp\\b", "\\bdouble\\b", "\\bfloat\\b");
            for (String one : out) {
                boolean found = Pattern.compile(one).matcher(code).find();
                if (found) System.out.println("  found: " + one);
                c.due(!found);
            }
        });
        Check.that("0 the language: classes, fields, parameters and methods in their measures", c -> {
            TreeSet<Class<?>> classes = new TreeSet<>((a, b) -> a.getName().compareTo(b.getName()));
            classes.add(BookHouse.class);
            classes.addAll(Arrays.asList(BookHouse.class.getDeclaredClasses()));
            c.due(classes.size() <= 12);
            for (Class<?> one : classes) {
                int fields = 0;
                for (Field f : one.getDeclaredFields()) {
                    boolean isStatic = Modifier.isStatic(f.getModifiers());
                    if (!isStatic) fields++;
                    c.due(!isStatic || Modifier.isFinal(f.getModifiers()));
                }
                c.due(fields <= 20);
                for (Method m : one.getDeclaredMethods()) c.due(m.getParameterCount() <= 7);
            }
            Matcher method = Pattern.compile("(?m)^(    |        )[a-zA-Z][^;=\n]*\\) \\{\n(?s:.*?)^\\1\\}\n").matcher(source());
            int methods = 0;
            while (method.find()) {
                methods++;
                c.due(method.group().split("\n").length <= 60);
            }
            c.due(methods > 100);
        });
    }

    private static final int[] WILD = {-2, -1, 0, 1, 2, 5, 9, 10, 11, 60, 64, Integer.MAX_VALUE, Integer.MIN_VALUE};

    /** Every call with all ways to choose its numbers from these. */
    private static void callAll(Check.Case c, BookHouse x, int[] numbers) {
        for (Method m : BookHouse.class.getDeclaredMethods()) {
            if (!Modifier.isPublic(m.getModifiers())) continue;
            int[] at = new int[m.getParameterCount()];
            boolean more = true;
            while (more) {
                Object[] a = new Object[at.length];
                for (int i = 0; i < at.length; i++) a[i] = numbers[at[i]];
                try {
                    m.invoke(x, a);
                } catch (ReflectiveOperationException thrown) {
                    System.out.println("  " + m.getName() + Arrays.toString(a) + ": " + thrown.getCause());
                    c.due(false);
                    return;
                }
                more = false;
                for (int i = 0; i < at.length && !more; i++) {
                    at[i] = (at[i] + 1) % numbers.length;
                    more = at[i] != 0;
                }
            }
        }
        c.due(true);
    }

    private static void wild() {
        Check.that("0 wild numbers: no call throws, on a new object", c -> callAll(c, c.x, WILD));
        Check.that("0 wild numbers: no call throws, on a full object", c -> {
            int part = c.part(0);
            for (int k = 0; k < 9; k++) {
                int s = c.sentence(0, k % 2 == 0 ? part : -1, 6, 13, 20, 5, 1 + k);
                c.x.tie(0, s, k % 3 == 0 ? s : part);
                c.pad(1, 50, 51);
                c.x.lead(1, 0, s, 1);
                c.x.yes(0, s);
                c.x.edition(0, k % 2, 10 + k, 10);
                c.x.keep(0);
                c.x.rule(0, s);
            }
            c.x.give(0, 2, 20);
            while (c.x.told(0) < 60) c.picture(0, -1, 9);
            callAll(c, c.x, WILD);
        });
    }

    public static void main(String[] args) {
        face();
        language();
        wild();
        Check.end();
    }
}
