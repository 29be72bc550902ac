import java.lang.reflect.Method;
import java.nio.file.Files;
import java.nio.file.Path;
import java.util.List;
import java.util.TreeSet;
import java.util.regex.Matcher;
import java.util.regex.Pattern;

/** What README.md says of the class: its example's answers, its table of calls, its table of settings. */
public final class ReadmeTests {
    private static final Pattern EXAMPLE = Pattern.compile("x\\.(\\w+)\\(([^)]*)\\);\\s*// (-?\\d+)");
    private static final Pattern CALL = Pattern.compile("\\| `(\\w+)\\(([^)]*)\\)` \\|.*");
    private static final Pattern SETTING =
        Pattern.compile("\\| (\\d+) \\| [^|]+ \\| (-?\\d+) \\| (-?\\d+) \\| (-?\\d+) \\|");

    private static int wrong = 0;

    private static void due(String what, long got, long want) {
        if (got != want) {
            wrong++;
            System.out.println(what + " answered " + got + ", README.md says " + want);
        }
    }

    public static void main(String[] args) throws Exception {
        List<String> lines = Files.readAllLines(Path.of("README.md"));
        example(lines);
        calls(lines);
        settings(lines);
        System.out.println(wrong == 0 ? "README.md says what the class does" : wrong + " wrong");
        if (wrong != 0) {
            System.exit(1);
        }
    }

    private static Method named(String name) {
        for (Method m : BoostForests.class.getDeclaredMethods()) {
            if (m.getName().equals(name)) {
                return m;
            }
        }
        throw new IllegalStateException("README.md has a call that the class has not: " + name);
    }

    private static String[] parts(String list) {
        return list.isBlank() ? new String[0] : list.split(", ");
    }

    private static void example(List<String> lines) throws Exception {
        BoostForests x = new BoostForests();
        int found = 0;
        for (String line : lines) {
            Matcher m = EXAMPLE.matcher(line);
            if (line.startsWith("x.")) {
                if (!m.lookingAt()) {
                    throw new IllegalStateException("without an answer: " + line);
                }
                String[] texts = parts(m.group(2));
                Object[] values = new Object[texts.length];
                for (int i = 0; i < texts.length; i++) {
                    values[i] = Integer.valueOf(texts[i]);
                }
                Number got = (Number) named(m.group(1)).invoke(x, values);
                due(line, got.longValue(), Long.parseLong(m.group(3)));
                found++;
            }
        }
        due("are there calls in the example", found > 0 ? 1 : 0, 1);
    }

    private static void calls(List<String> lines) {
        TreeSet<String> said = new TreeSet<>();
        for (String line : lines) {
            Matcher m = CALL.matcher(line);
            if (m.matches()) {
                said.add(m.group(1));
                due("parameters of " + m.group(1), named(m.group(1)).getParameterCount(), parts(m.group(2)).length);
            }
        }
        for (Method m : BoostForests.class.getMethods()) {
            if (m.getDeclaringClass() == BoostForests.class) {
                due("is " + m.getName() + " in the table", said.contains(m.getName()) ? 1 : 0, 1);
            }
        }
    }

    private static void settings(List<String> lines) {
        BoostForests x = new BoostForests();
        int next = 0;
        for (String line : lines) {
            Matcher m = SETTING.matcher(line);
            if (m.matches()) {
                int what = Integer.parseInt(m.group(1)), from = Integer.parseInt(m.group(2));
                int to = Integer.parseInt(m.group(3)), first = Integer.parseInt(m.group(4));
                due("the next setting", what, next++);
                due(line + " at first", x.count(4 + what), first);
                due(line + " from", x.set(what, from), first);
                due(line + " to", x.set(what, to), from);
                if (from != Integer.MIN_VALUE) {
                    due(line + " below", x.set(what, from - 1), BoostForests.BAD);
                    due(line + " above", x.set(what, to + 1), BoostForests.BAD);
                }
            }
        }
        due("settings in the table", next, 15);
        due("a setting beyond the table", x.count(4 + next), BoostForests.BAD);
    }
}
