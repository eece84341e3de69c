import java.io.IOException;
import java.lang.reflect.InvocationTargetException;
import java.lang.reflect.Method;
import java.lang.reflect.Modifier;
import java.nio.charset.StandardCharsets;
import java.nio.file.Files;
import java.nio.file.Path;
import java.util.ArrayList;
import java.util.List;
import java.util.regex.Matcher;
import java.util.regex.Pattern;

/**
 * What README.md says of the use of the class holds: each line of its example answers what stands behind
 * it, the texts that it shows can be read, its way to feed a text is the one here, and it names all calls.
 */
public final class ReadmeExample {
    private static final Pattern CALL = Pattern.compile("gates\\.(\\w+)\\((.*)\\); // ([^:]+)(?:: .*)?");
    private static final Pattern FED = Pattern.compile("feed\\(gates, \"(.*)\"\\)");
    private static final Pattern SHOWN = Pattern.compile("(?m)^\\| `(town|law|work|book)\\(n\\)` \\| `([^`]*)` \\|");
    private static int wrong = 0;

    private ReadmeExample() {
    }

    public static void main(String[] args) throws IOException {
        Path root = Path.of(args[0]);
        String readme = Files.readString(root.resolve("README.md"), StandardCharsets.UTF_8);
        String own = Files.readString(root.resolve("src/test/java/ReadmeExample.java"), StandardCharsets.UTF_8);
        List<String> programs = programs(readme);
        need(programs.size() == 2, "README.md prints a way to feed a text, and an example");
        if (programs.size() == 2) {
            String indented = programs.get(0).replaceAll("(?m)^(?=.)", "    ");
            need(own.contains(indented), "README.md feeds a text in another way than here");
            playExample(programs.get(1));
        }
        readShownTexts(readme);
        for (Method m : SmokeGates.class.getDeclaredMethods()) {
            need(!Modifier.isPublic(m.getModifiers()) || readme.contains("`" + m.getName() + "("),
                "README.md does not name " + m.getName());
        }
        System.out.println(wrong == 0 ? "README.md holds" : wrong + " faults");
        if (wrong != 0) {
            System.exit(1);
        }
    }

    private static void need(boolean good, String what) {
        if (!good) {
            wrong++;
            System.out.println(what);
        }
    }

    private static List<String> programs(String readme) {
        List<String> found = new ArrayList<>();
        Matcher program = Pattern.compile("(?s)```java\n(.*?)```").matcher(readme);
        while (program.find()) {
            found.add(program.group(1));
        }
        return found;
    }

    private static void playExample(String program) {
        String[] lines = program.split("\n");
        need(lines.length > 1 && lines[0].equals("SmokeGates gates = new SmokeGates();"), "the example makes an object");
        SmokeGates gates = new SmokeGates();
        for (int i = 1; i < lines.length; i++) {
            Matcher call = CALL.matcher(lines[i]);
            if (call.matches()) {
                String got = answer(gates, call.group(1), call.group(2));
                need(got.equals(call.group(3)), lines[i] + " -- answered " + got);
            } else {
                need(false, "no call: " + lines[i]);
            }
        }
    }

    private static String answer(SmokeGates gates, String name, String told) {
        Matcher fed = FED.matcher(told);
        String[] words = told.isEmpty() ? new String[0] : told.split(", ");
        if (fed.matches()) {
            words = new String[] {Integer.toString(feed(gates, fed.group(1)))};
        }
        Object[] numbers = new Object[words.length];
        for (int i = 0; i < words.length; i++) {
            numbers[i] = Integer.valueOf(words[i]);
        }
        for (Method m : SmokeGates.class.getDeclaredMethods()) {
            if (m.getName().equals(name) && m.getParameterCount() == numbers.length) {
                try {
                    return m.invoke(gates, numbers).toString();
                } catch (InvocationTargetException e) {
                    return "throws " + e.getCause().getClass().getSimpleName();
                } catch (IllegalAccessException e) {
                    return "not to be called";
                }
            }
        }
        return "no such call";
    }

    private static void readShownTexts(String readme) {
        SmokeGates gates = new SmokeGates();
        Matcher text = SHOWN.matcher(readme);
        int many = 0;
        while (text.find()) {
            many++;
            int n = feed(gates, text.group(2));
            String got = answer(gates, text.group(1), Integer.toString(n));
            need(!got.startsWith("-"), text.group(2) + " -- answered " + got);
        }
        need(many == 4, "README.md shows a text for town, law, work and book");
    }

    static int feed(SmokeGates gates, String text) {
        StringBuilder bytes = new StringBuilder(text);
        while (bytes.length() % 20 != 0) {
            bytes.append(' ');
        }
        for (int at = 0; at < bytes.length(); at += 20) {
            gates.feed(number(bytes, at), number(bytes, at + 4), number(bytes, at + 8),
                number(bytes, at + 12), number(bytes, at + 16));
        }
        return text.length();
    }

    static int number(StringBuilder bytes, int at) {
        return bytes.charAt(at) << 24 | bytes.charAt(at + 1) << 16 | bytes.charAt(at + 2) << 8 | bytes.charAt(at + 3);
    }
}
