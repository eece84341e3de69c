import java.io.ByteArrayOutputStream;
import java.io.IOException;
import java.io.OutputStream;
import java.io.PrintStream;
import java.net.URI;
import java.nio.charset.StandardCharsets;
import java.nio.file.Files;
import java.nio.file.Path;
import java.util.ArrayList;
import java.util.HashMap;
import java.util.HashSet;
import java.util.LinkedHashMap;
import java.util.List;
import java.util.Map;
import java.util.Set;
import java.util.concurrent.ExecutionException;
import java.util.concurrent.ExecutorService;
import java.util.concurrent.Executors;
import java.util.concurrent.Future;
import java.util.concurrent.atomic.AtomicInteger;
import java.util.regex.Matcher;
import java.util.regex.Pattern;
import javax.tools.FileObject;
import javax.tools.ForwardingJavaFileManager;
import javax.tools.JavaCompiler;
import javax.tools.JavaFileObject;
import javax.tools.SimpleJavaFileObject;
import javax.tools.StandardJavaFileManager;
import javax.tools.ToolProvider;

/**
 * Changes the class in one place at a time (a number by 1, a comparison, a sign, a statement left out)
 * and sees whether the runs of a folder find that out. What they do not find is printed, unless it
 * stands in alike.txt: changes that alter no answer. Arguments: the project, the folder of the runs.
 */
public final class Mutants {
    private static final long PATIENCE_MILLIS = 10_000;
    private static final int ERROR = -1;
    private static final JavaCompiler COMPILER = ToolProvider.getSystemJavaCompiler();
    private static final Map<String, String[]> CHANGES = new LinkedHashMap<>();

    static {
        CHANGES.put(" < ", new String[] {" <= ", " >= "});
        CHANGES.put(" <= ", new String[] {" < ", " > "});
        CHANGES.put(" > ", new String[] {" >= ", " <= "});
        CHANGES.put(" >= ", new String[] {" > ", " < "});
        CHANGES.put(" == ", new String[] {" != "});
        CHANGES.put(" != ", new String[] {" == "});
        CHANGES.put(" && ", new String[] {" || "});
        CHANGES.put(" || ", new String[] {" && "});
        CHANGES.put(" + ", new String[] {" - "});
        CHANGES.put(" - ", new String[] {" + "});
        CHANGES.put(" * ", new String[] {" + "});
        CHANGES.put(" / ", new String[] {" * "});
        CHANGES.put(" % ", new String[] {" / "});
        CHANGES.put(" |= ", new String[] {" &= ", " ^= "});
        CHANGES.put("++", new String[] {"--"});
        CHANGES.put("--", new String[] {"++"});
        CHANGES.put("Math.min", new String[] {"Math.max"});
        CHANGES.put("Math.max", new String[] {"Math.min"});
        CHANGES.put("true", new String[] {"false"});
        CHANGES.put("false", new String[] {"true"});
        CHANGES.put("NONE", new String[] {"0"});
    }

    private static final Pattern NUMBER = Pattern.compile("(?<![\\w.])\\d+(?!\\w)");
    private static final Pattern NO_STATEMENT = Pattern.compile(
        "(return .*|private .*|static .*|final .*|public .*|throw .*|case .*|default.*|break;|import .*"
        + "|(int|boolean|Town|Law|Book)(\\[\\])? \\w+.*)");

    private static final Pattern METHOD = Pattern.compile("(?: {4}| {8})(?!return )(?:\\w+ )+(\\w+)\\(.*");
    private static final Pattern TYPE = Pattern.compile("(?:\\w+ | )*class (\\w+) \\{");

    private record Mutant(String what, String source) {
    }

    private final List<String> lines;
    private final String runner;
    private final Path folder;
    private final Set<String> alike;
    private final List<String> missed = new ArrayList<>();
    private int found = 0;

    private Mutants(Path project, Path folder) throws IOException {
        lines = Files.readAllLines(project.resolve("src/main/java/SmokeGates.java"), StandardCharsets.UTF_8);
        runner = Files.readString(project.resolve("src/test/java/ScriptRuns.java"), StandardCharsets.UTF_8);
        alike = new HashSet<>(Files.readAllLines(project.resolve("src/test/mutants/alike.txt")));
        this.folder = folder;
    }

    public static void main(String[] args) throws Exception {
        PrintStream out = System.out;
        System.setOut(new PrintStream(OutputStream.nullOutputStream()));
        Mutants all = new Mutants(Path.of(args[0]), Path.of(args[1]));
        if (all.faults(String.join("\n", all.lines)) != 0) {
            out.println("the runs do not hold for the class as it is");
            System.exit(1);
        }
        all.tryAll(all.make());
        all.missed.sort(null);
        all.missed.forEach(out::println);
        out.println(all.found + " changes were found, " + all.missed.size() + " were not");
        System.exit(all.missed.isEmpty() ? 0 : 1);
    }

    private List<Mutant> make() {
        List<Mutant> made = new ArrayList<>();
        for (int i = 0; i < lines.size(); i++) {
            String line = lines.get(i).trim();
            if (line.startsWith("//") || line.startsWith("/*") || line.startsWith("import ")) {
                continue;
            }
            changeNumbers(made, i);
            for (Map.Entry<String, String[]> change : CHANGES.entrySet()) {
                changeSigns(made, i, change.getKey(), change.getValue());
            }
            if (line.endsWith(";") && !NO_STATEMENT.matcher(line).matches()) {
                add(made, i, "");
            }
        }
        return made;
    }

    private void changeNumbers(List<Mutant> made, int i) {
        String line = lines.get(i);
        Matcher number = NUMBER.matcher(line);
        while (number.find()) {
            long value = Long.parseLong(number.group());
            add(made, i, line.substring(0, number.start()) + (value + 1) + line.substring(number.end()));
            if (value > 0) {
                add(made, i, line.substring(0, number.start()) + (value - 1) + line.substring(number.end()));
            }
        }
    }

    private void changeSigns(List<Mutant> made, int i, String from, String[] to) {
        String line = lines.get(i);
        for (int at = line.indexOf(from); at >= 0; at = line.indexOf(from, at + 1)) {
            for (String other : to) {
                add(made, i, line.substring(0, at) + other + line.substring(at + from.length()));
            }
        }
    }

    private void add(List<Mutant> made, int i, String line) {
        List<String> changed = new ArrayList<>(lines);
        changed.set(i, line);
        String what = place(i) + ": " + lines.get(i).trim() + "  =>  " + line.trim();
        made.add(new Mutant(what.trim(), String.join("\n", changed)));
    }

    /** The class and the method that a line is in. */
    private String place(int i) {
        String method = "";
        for (int at = i; at >= 0; at--) {
            Matcher head = METHOD.matcher(lines.get(at));
            Matcher type = TYPE.matcher(lines.get(at));
            if (type.matches()) {
                return type.group(1) + "." + method;
            } else if (method.isEmpty() && head.matches()) {
                method = head.group(1);
            }
        }
        return method;
    }

    private void tryAll(List<Mutant> made) throws InterruptedException, ExecutionException {
        ExecutorService workers = Executors.newFixedThreadPool(Runtime.getRuntime().availableProcessors());
        List<Future<Integer>> answers = new ArrayList<>();
        for (Mutant mutant : made) {
            answers.add(workers.submit(() -> faults(mutant.source())));
        }
        for (int i = 0; i < made.size(); i++) {
            if (answers.get(i).get() != 0) {
                found++;
            } else if (!alike.contains(made.get(i).what())) {
                missed.add(made.get(i).what());
            }
        }
        workers.shutdown();
    }

    /** How many faults the runs find; ERROR, if it can't be compiled, throws, or does not end. */
    private int faults(String source) throws Exception {
        Memory memory = new Memory(COMPILER.getStandardFileManager(null, null, null));
        List<Text> texts = List.of(new Text("SmokeGates", source), new Text("ScriptRuns", runner));
        if (!COMPILER.getTask(null, memory, d -> { }, List.of("-proc:none"), null, texts).call()) {
            return ERROR;
        }
        Class<?> runs = new Loader(memory.classes).loadClass("ScriptRuns");
        AtomicInteger answer = new AtomicInteger(ERROR);
        Thread thread = new Thread(() -> {
            try {
                answer.set((Integer) runs.getMethod("runAll", Path.class).invoke(null, folder));
            } catch (ReflectiveOperationException | ExceptionInInitializerError e) {
                answer.set(ERROR);
            }
        });
        thread.setDaemon(true);
        thread.start();
        thread.join(PATIENCE_MILLIS);
        end(thread);
        return answer.get();
    }

    // A changed loop may never end, and nothing else can end it.
    @SuppressWarnings({"deprecation", "removal"})
    private static void end(Thread thread) {
        if (thread.isAlive()) {
            thread.stop();
        }
    }

    private static final class Text extends SimpleJavaFileObject {
        private final String source;

        Text(String name, String source) {
            super(URI.create("string:///" + name + ".java"), Kind.SOURCE);
            this.source = source;
        }

        @Override
        public CharSequence getCharContent(boolean ignored) {
            return source;
        }
    }

    private static final class Memory extends ForwardingJavaFileManager<StandardJavaFileManager> {
        private final Map<String, ByteArrayOutputStream> classes = new HashMap<>();

        Memory(StandardJavaFileManager manager) {
            super(manager);
        }

        @Override
        public JavaFileObject getJavaFileForOutput(Location where, String name, JavaFileObject.Kind kind,
                FileObject sibling) {
            ByteArrayOutputStream bytes = new ByteArrayOutputStream();
            classes.put(name, bytes);
            return new SimpleJavaFileObject(URI.create("memory:///" + name), kind) {
                @Override
                public OutputStream openOutputStream() {
                    return bytes;
                }
            };
        }
    }

    private static final class Loader extends ClassLoader {
        private final Map<String, ByteArrayOutputStream> classes;

        Loader(Map<String, ByteArrayOutputStream> classes) {
            super(null);
            this.classes = classes;
        }

        @Override
        protected Class<?> findClass(String name) throws ClassNotFoundException {
            ByteArrayOutputStream bytes = classes.get(name);
            if (bytes == null) {
                throw new ClassNotFoundException(name);
            }
            return defineClass(name, bytes.toByteArray(), 0, bytes.size());
        }
    }
}
