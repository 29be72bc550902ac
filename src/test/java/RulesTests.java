import java.lang.reflect.Constructor;
import java.lang.reflect.Field;
import java.lang.reflect.Method;
import java.lang.reflect.Modifier;
import java.nio.file.Files;
import java.nio.file.Path;
import java.util.ArrayList;
import java.util.List;
import java.util.TreeSet;
import java.util.regex.Matcher;
import java.util.regex.Pattern;

/** The public face, words that LANGUAGE.md rules out, wild arguments, and that calls make no objects. */
public final class RulesTests {
    private static final String[] FACE = {
        "int row(int,int,int,int,int,int)", "int hold(int,int)", "int set(int,int)", "int clear()", "int train()",
        "int node(int,int,int)", "long sum(int,int,int)", "int size(int)", "int leaf(int,int,int,int,int)",
        "long answer(int,int,int,int,int)", "long loss(int,int)", "int best()", "long without(int)",
        "int took(int)", "long gain(int)", "long told(int,int,int,int,int)", "long share(int,int,int,int,int)",
        "int count(int)"};
    private static final String[] RULED_OUT = {
        "throw", "throws", "try", "catch", "synchronized", "assert", "import", "protected", "Exact", "->", "::"};

    private static int wrong = 0;

    private static void holds(String what, boolean so) {
        if (!so) {
            wrong++;
            System.out.println("does not hold: " + what);
        }
    }

    public static void main(String[] args) throws Exception {
        face();
        nestedClasses();
        words();
        wildArguments();
        room();
        System.out.println(wrong == 0 ? "all rules hold" : wrong + " rules do not hold");
        if (wrong != 0) {
            System.exit(1);
        }
    }

    private static String signature(Method m) {
        List<String> types = new ArrayList<>();
        for (Class<?> type : m.getParameterTypes()) {
            types.add(type.getName());
        }
        return m.getReturnType().getName() + " " + m.getName() + "(" + String.join(",", types) + ")";
    }

    private static TreeSet<String> publicNames() {
        TreeSet<String> names = new TreeSet<>();
        for (String method : FACE) {
            names.add(method.substring(method.indexOf(' ') + 1, method.indexOf('(')));
        }
        return names;
    }

    private static void face() throws Exception {
        Class<?> type = BoostForests.class;
        holds("public and final", Modifier.isPublic(type.getModifiers()) && Modifier.isFinal(type.getModifiers()));
        TreeSet<String> open = new TreeSet<>();
        for (Method m : type.getDeclaredMethods()) {
            if (Modifier.isPrivate(m.getModifiers())) {
                holds("own name of " + m, !publicNames().contains(m.getName()));
            } else {
                holds("public and of the object: " + m,
                    Modifier.isPublic(m.getModifiers()) && !Modifier.isStatic(m.getModifiers()));
                open.add(signature(m));
            }
        }
        holds("the methods of the face", open.equals(new TreeSet<>(List.of(FACE))));
        for (Field f : type.getDeclaredFields()) {
            boolean constant = f.getName().equals("NONE") || f.getName().equals("BAD");
            holds("field " + f, constant == Modifier.isPublic(f.getModifiers())
                && constant != Modifier.isPrivate(f.getModifiers()));
            holds("static fields are final: " + f,
                !Modifier.isStatic(f.getModifiers()) || Modifier.isFinal(f.getModifiers()));
        }
        Constructor<?>[] made = type.getDeclaredConstructors();
        holds("one public constructor", made.length == 1 && made[0].getParameterCount() == 0
            && Modifier.isPublic(made[0].getModifiers()));
    }

    private static void nestedClasses() {
        Class<?>[] nested = BoostForests.class.getDeclaredClasses();
        holds("at most twelve classes", nested.length <= 12);
        for (Class<?> type : nested) {
            int how = type.getModifiers();
            holds("static and not open: " + type,
                Modifier.isStatic(how) && !Modifier.isPublic(how) && !Modifier.isProtected(how));
            holds("at most twenty fields: " + type, type.getDeclaredFields().length <= 20);
            for (Method m : type.getDeclaredMethods()) {
                holds("own name of " + m, !publicNames().contains(m.getName()));
                holds("at most seven parameters: " + m, m.getParameterCount() <= 7);
            }
        }
    }

    private static void words() throws Exception {
        String source = Files.readString(Path.of("src/main/java/BoostForests.java"));
        String code = source.replaceAll("(?s)/\\*.*?\\*/", "").replaceAll("//[^\n]*", "");
        for (String word : RULED_OUT) {
            boolean letters = Character.isLetter(word.charAt(0));
            Matcher m = Pattern.compile(letters ? "\\b" + word + "\\b" : Pattern.quote(word)).matcher(code);
            holds("no '" + word + "'", !m.find());
        }
        holds("no function that ends in Exact", !code.contains("Exact("));
        Matcher library = Pattern.compile("\\b(Integer|Long|Math|System|Arrays)\\.(\\w+)").matcher(code);
        TreeSet<String> allowed =
            new TreeSet<>(List.of("Integer.bitCount", "Math.min", "Math.floorDiv", "System.arraycopy"));
        while (library.find()) {
            holds("library: " + library.group(), allowed.contains(library.group()));
        }
    }

    /** Every method with every mixture of a few arguments, in several states: nothing may be thrown. */
    private static void wildArguments() throws Exception {
        int[] some = {Integer.MIN_VALUE, -2, -1, 0, 1, 5, 12, 31, 32, 40, Integer.MAX_VALUE};
        for (int state = 0; state < 4; state++) {
            BoostForests x = new BoostForests();
            for (int i = 0; state > 0 && i < 40; i++) {
                x.row(i % 32, i % 3 - 1, 31 - i % 32, -1, i * 5 - 100, 1 + i % 8);
            }
            if (state > 1) {
                x.set(0, 4);
                x.set(4, 12);
                x.train();
            }
            if (state > 2) {
                x.clear();
            }
            for (Method m : BoostForests.class.getMethods()) {
                if (m.getDeclaringClass() == BoostForests.class && !m.getName().equals("clear")) {
                    tryAll(x, m, some);
                }
            }
        }
    }

    private static void tryAll(BoostForests x, Method m, int[] some) {
        int parameters = m.getParameterCount();
        // Beyond three parameters a part of the mixtures is enough.
        int tries = Math.min(4000, (int) Math.pow(some.length, parameters));
        long seed = 12345;
        for (int t = 0; t < tries; t++) {
            Object[] values = new Object[parameters];
            long rest = t;
            for (int p = 0; p < parameters; p++) {
                seed = seed * 6364136223846793005L + 1442695040888963407L;
                long pick = parameters > 3 ? seed >>> 33 : rest;
                values[p] = some[(int) (pick % some.length)];
                rest /= some.length;
            }
            try {
                m.invoke(x, values);
            } catch (ReflectiveOperationException e) {
                holds(m + " with " + List.of(values) + ": " + e.getCause(), false);
                return;
            }
        }
    }

    private static long allocated() {
        var threads = (com.sun.management.ThreadMXBean) java.lang.management.ManagementFactory.getThreadMXBean();
        return threads.getThreadAllocatedBytes(Thread.currentThread().getId());
    }

    private static void room() {
        BoostForests x = new BoostForests();
        for (int i = 0; i < 40; i++) {
            x.row(i % 32, i * 7 % 32, i * 11 % 32, i * 13 % 33 - 1, i * 17 % 201 - 100, 1 + i % 8);
        }
        x.hold(5, 1);
        x.set(0, 4);
        x.set(4, 12);
        allocated();
        long before = allocated();
        for (int k = 0; k < 100; k++) {
            x.train();
            x.answer(12, 1, 2, 3, 4);
            x.told(5, 1, 2, 3, 4);
            x.share(k % 4, 1, 2, 3, 4);
            x.without(k % 40);
        }
        long made = allocated() - before;
        holds("500 calls make nothing, but made " + made + " bytes", made < 20000);
        before = allocated();
        BoostForests y = new BoostForests();
        made = allocated() - before;
        holds("an object is small, but has " + made + " bytes", made < 65536 && y.count(0) == 0);
    }
}
