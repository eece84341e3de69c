import java.io.IOException;
import java.lang.reflect.InvocationTargetException;
import java.lang.reflect.Method;
import java.lang.reflect.Modifier;
import java.nio.charset.StandardCharsets;
import java.nio.file.Files;
import java.nio.file.Path;
import java.util.ArrayList;
import java.util.HashSet;
import java.util.List;
import java.util.NoSuchElementException;
import java.util.Set;
import java.util.stream.Stream;

/**
 * Runs of calls that stand as lines in src/test/runs/*.txt: "name arguments = answer".
 *
 * "new" and each title "## .." make a new object; "# .." is a remark. The answers NoSuch and Illegal
 * stand for NoSuchElementException and IllegalArgumentException, a boolean counts 1 or 0, and ? takes
 * any answer. "30 times: name arguments = answer" makes the same call that often.
 *
 * An argument in quotes is a text: it is fed first (the last twenty bytes filled with bytes 0), and
 * its length is the argument; for feed the answer is the one of the last twenty bytes. In a text
 * {9*gate 0;} stands for nine times what is behind the *, \x7b for the byte of that number.
 */
public final class ScriptRuns {
    private static final int MOST_CALLS = 512;
    private static final List<Method> FACE = new ArrayList<>();
    private static final Set<String> CALLED = new HashSet<>();
    private static SmokeGates gates = new SmokeGates();
    private static int calls = 0;
    private static String title = "";
    private static int wrong = 0;
    private static int asked = 0;

    private ScriptRuns() {
    }

    public static void main(String[] args) throws IOException {
        if (runAll(Path.of(args[0], "src", "test", "runs")) != 0) {
            System.exit(1);
        }
    }

    /** Plays all runs of a folder: how many faults there were. */
    public static int runAll(Path folder) throws IOException {
        for (Method m : SmokeGates.class.getDeclaredMethods()) {
            if (Modifier.isPublic(m.getModifiers())) {
                FACE.add(m);
            }
        }
        List<Path> files;
        try (Stream<Path> all = Files.list(folder)) {
            files = all.filter(p -> p.toString().endsWith(".txt")).sorted().toList();
        }
        for (Path file : files) {
            runFile(file);
        }
        for (Method m : FACE) {
            if (!CALLED.contains(m.getName())) {
                fail("no run calls " + m.getName());
            }
        }
        if (asked == 0) {
            fail("nothing was asked");
        }
        System.out.println(asked + " answers in " + files.size() + " files, " + wrong + " wrong");
        return wrong;
    }

    private static void fail(String what) {
        wrong++;
        System.out.println(what);
    }

    private static void begin() {
        gates = new SmokeGates();
        calls = 0;
    }

    private static void runFile(Path file) throws IOException {
        begin();
        title = "";
        int number = 0;
        for (String line : Files.readAllLines(file, StandardCharsets.ISO_8859_1)) {
            number++;
            if (line.startsWith("## ")) {
                title = line.substring(3);
                begin();
            } else if (line.equals("new")) {
                begin();
            } else if (!line.isBlank() && !line.startsWith("#")) {
                runLine(line, file.getFileName() + ":" + number);
            }
        }
    }

    private static void runLine(String line, String where) {
        int split = line.lastIndexOf(" = ");
        String want = line.substring(split + 3).trim();
        String call = line.substring(0, split);
        int times = 1;
        int behindTimes = call.indexOf(" times: ");
        if (behindTimes >= 0) {
            times = Integer.parseInt(call.substring(0, behindTimes));
            call = call.substring(behindTimes + " times: ".length());
        }
        for (int i = 0; i < times; i++) {
            String got = answer(call);
            asked++;
            if (!want.equals("?") && !got.equals(want)) {
                fail(where + ": " + line + " -- answered " + got + " (" + title + ")");
                return;
            }
        }
        if (calls > MOST_CALLS) {
            fail(where + ": more than " + MOST_CALLS + " calls of one object (" + title + ")");
        }
    }

    private static String answer(String call) {
        int quote = call.indexOf('"');
        if (quote >= 0) {
            String name = call.substring(0, quote).trim();
            String text = plain(call.substring(quote + 1, call.lastIndexOf('"')));
            String last = feed(text);
            return name.equals("feed") ? last : called(name, new Object[] {text.length()});
        }
        String[] words = call.trim().split(" +");
        Object[] numbers = new Object[words.length - 1];
        for (int i = 1; i < words.length; i++) {
            numbers[i - 1] = Integer.valueOf(words[i]);
        }
        return called(words[0], numbers);
    }

    /** A text with its {9*..} and \x7b written out. */
    private static String plain(String written) {
        StringBuilder out = new StringBuilder();
        int i = 0;
        while (i < written.length()) {
            if (written.charAt(i) == '{') {
                int star = written.indexOf('*', i);
                int end = written.indexOf('}', i);
                int times = Integer.parseInt(written.substring(i + 1, star));
                out.append(plain(written.substring(star + 1, end)).repeat(times));
                i = end + 1;
            } else if (written.startsWith("\\x", i)) {
                out.append((char) Integer.parseInt(written.substring(i + 2, i + 4), 16));
                i += 4;
            } else {
                out.append(written.charAt(i));
                i++;
            }
        }
        return out.toString();
    }

    private static String feed(String text) {
        String last = "";
        for (int from = 0; from < text.length(); from += 20) {
            Object[] five = new Object[5];
            for (int i = 0; i < 5; i++) {
                int number = 0;
                for (int at = from + 4 * i; at < from + 4 * i + 4; at++) {
                    number = number << 8 | (at < text.length() ? text.charAt(at) & 255 : 0);
                }
                five[i] = number;
            }
            last = called("feed", five);
        }
        return last;
    }

    private static String called(String name, Object[] numbers) {
        for (Method m : FACE) {
            if (m.getName().equals(name) && m.getParameterCount() == numbers.length) {
                CALLED.add(name);
                calls++;
                try {
                    Object got = m.invoke(gates, numbers);
                    return got instanceof Boolean b ? (b ? "1" : "0") : got.toString();
                } catch (InvocationTargetException e) {
                    return thrown(e.getCause());
                } catch (IllegalAccessException e) {
                    return "not to be called";
                }
            }
        }
        return "no such call";
    }

    private static String thrown(Throwable e) {
        if (e.getClass() == NoSuchElementException.class) {
            return "NoSuch";
        }
        return e.getClass() == IllegalArgumentException.class ? "Illegal" : e.toString();
    }
}
