import java.io.IOException;
import java.lang.reflect.InvocationTargetException;
import java.lang.reflect.Method;
import java.nio.charset.StandardCharsets;
import java.nio.file.Files;
import java.nio.file.Path;
import java.util.ArrayList;
import java.util.HashSet;
import java.util.List;
import java.util.Set;
import java.util.stream.Stream;

/**
 * Runs of calls that stand as lines in src/test/runs/*.txt: "name arguments = answer".
 * "new" makes a new object; "## .." and "# .." are titles and remarks. An argument in quotes is a
 * text: it is fed first, and its length is the argument. A boolean counts 1 or 0; the answers
 * NoSuch and Illegal stand for NoSuchElementException and IllegalArgumentException.
 */
public final class ScriptRuns {
    private static final List<Method> FACE = new ArrayList<>();
    private static final Set<String> CALLED = new HashSet<>();
    private static int wrong = 0;
    private static int asked = 0;

    private ScriptRuns() {
    }

    public static void main(String[] args) throws IOException {
        for (Method m : SmokeGates.class.getDeclaredMethods()) {
            if (java.lang.reflect.Modifier.isPublic(m.getModifiers())) {
                FACE.add(m);
            }
        }
        Path folder = Path.of(args[0], "src", "test", "runs");
        List<Path> files;
        try (Stream<Path> all = Files.list(folder)) {
            files = all.filter(p -> p.toString().endsWith(".txt")).sorted().toList();
        }
        for (Path file : files) {
            runFile(file);
        }
        for (Method m : FACE) {
            if (!CALLED.contains(m.getName())) {
                fail("no run calls " + m.getName());
            }
        }
        System.out.println(asked + " answers in " + files.size() + " files, " + wrong + " wrong");
        if (wrong != 0 || asked == 0) {
            System.exit(1);
        }
    }

    private static void fail(String what) {
        wrong++;
        System.out.println(what);
    }

    private static void runFile(Path file) throws IOException {
        SmokeGates gates = new SmokeGates();
        int number = 0;
        for (String line : Files.readAllLines(file, StandardCharsets.ISO_8859_1)) {
            number++;
            if (line.isBlank() || line.startsWith("#")) {
                continue;
            }
            if (line.equals("new")) {
                gates = new SmokeGates();
                continue;
            }
            int split = line.lastIndexOf(" = ");
            String want = line.substring(split + 3).trim();
            String got = answer(gates, line.substring(0, split));
            asked++;
            if (!got.equals(want)) {
                fail(file.getFileName() + ":" + number + ": " + line + " -- answered " + got);
            }
        }
    }

    private static String answer(SmokeGates gates, String call) {
        int quote = call.indexOf('"');
        String name = call.trim();
        Object[] numbers;
        if (quote >= 0) {
            name = call.substring(0, quote).trim();
            String text = call.substring(quote + 1, call.lastIndexOf('"'));
            feed(gates, text);
            numbers = new Object[] {text.length()};
        } else {
            String[] words = name.split(" +");
            name = words[0];
            numbers = new Object[words.length - 1];
            for (int i = 1; i < words.length; i++) {
                numbers[i - 1] = Integer.valueOf(words[i]);
            }
        }
        return called(gates, name, numbers);
    }

    private static void feed(SmokeGates gates, String text) {
        for (int from = 0; from < text.length(); from += 20) {
            int[] five = new int[5];
            for (int i = 0; i < 20; i++) {
                int at = from + i;
                int sign = at < text.length() ? text.charAt(at) & 255 : 0;
                five[i / 4] = five[i / 4] << 8 | sign;
            }
            gates.feed(five[0], five[1], five[2], five[3], five[4]);
        }
    }

    private static String called(SmokeGates gates, String name, Object[] numbers) {
        for (Method m : FACE) {
            if (m.getName().equals(name) && m.getParameterCount() == numbers.length) {
                CALLED.add(name);
                try {
                    Object got = m.invoke(gates, numbers);
                    return got instanceof Boolean b ? (b ? "1" : "0") : got.toString();
                } catch (InvocationTargetException e) {
                    return thrown(e.getCause());
                } catch (IllegalAccessException e) {
                    return "not to be called";
                }
            }
        }
        return "no such call";
    }

    private static String thrown(Throwable e) {
        if (e.getClass() == java.util.NoSuchElementException.class) {
            return "NoSuch";
        }
        return e.getClass() == IllegalArgumentException.class ? "Illegal" : e.toString();
    }
}
