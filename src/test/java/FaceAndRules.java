import java.io.IOException;
import java.lang.management.ManagementFactory;
import java.lang.reflect.Constructor;
import java.lang.reflect.Field;
import java.lang.reflect.Method;
import java.lang.reflect.Modifier;
import java.nio.charset.StandardCharsets;
import java.nio.file.Files;
import java.nio.file.Path;
import java.util.ArrayList;
import java.util.List;
import java.util.Set;
import java.util.TreeSet;
import java.util.regex.Matcher;
import java.util.regex.Pattern;

/** The public face is the one that the document prints, and the source keeps to rules that can be seen in it. */
public final class FaceAndRules {
    private static int wrong = 0;

    private FaceAndRules() {
    }

    public static void main(String[] args) throws IOException {
        Path root = Path.of(args[0]);
        String document = Files.readString(root.resolve("../shared/DOC.md"), StandardCharsets.UTF_8);
        String source = Files.readString(root.resolve("src/main/java/SmokeGates.java"), StandardCharsets.UTF_8);
        checkFace(document);
        checkSource(source);
        checkCallsMakeNothing();
        System.out.println(wrong == 0 ? "the face and the rules hold" : wrong + " faults");
        if (wrong != 0) {
            System.exit(1);
        }
    }

    private static void need(boolean good, String what) {
        if (!good) {
            wrong++;
            System.out.println(what);
        }
    }

    private static void checkFace(String document) {
        Set<String> told = new TreeSet<>();
        Matcher m = Pattern.compile("public (int|boolean) (\\w+)\\(([^)]*)\\)([^;]*);").matcher(document);
        while (m.find()) {
            int commas = m.group(3).isBlank() ? 0 : m.group(3).split(",").length;
            told.add(m.group(1) + " " + m.group(2) + " " + commas + m.group(4).replaceAll("[ ,]+", " "));
        }
        Set<String> there = new TreeSet<>();
        for (Method method : SmokeGates.class.getDeclaredMethods()) {
            if (!Modifier.isPrivate(method.getModifiers())) {
                there.add(signature(method));
            }
        }
        need(told.size() == 39, "39 methods are told, read were " + told.size());
        need(told.equals(there), "methods told: " + told + "\nmethods there: " + there);
        need(Modifier.isFinal(SmokeGates.class.getModifiers()), "the class is final");
        Constructor<?>[] constructors = SmokeGates.class.getConstructors();
        need(constructors.length == 1 && constructors[0].getParameterCount() == 0, "one constructor");
        for (Field f : SmokeGates.class.getDeclaredFields()) {
            need(Modifier.isPrivate(f.getModifiers()) || f.getName().equals("NONE"), f.getName() + " is seen");
        }
        need(SmokeGates.NONE == -1, "NONE is -1");
    }

    private static String signature(Method method) {
        StringBuilder s = new StringBuilder();
        s.append(method.getReturnType().getSimpleName()).append(' ').append(method.getName());
        s.append(' ').append(method.getParameterCount());
        if (method.getExceptionTypes().length > 0) {
            s.append(" throws");
        }
        for (Class<?> e : method.getExceptionTypes()) {
            s.append(' ').append(e.getSimpleName());
        }
        return s.toString();
    }

    private static void checkSource(String source) {
        String[] never = {"catch", "finally", "synchronized", "assert", "->", "::", "package ", "static {",
            "Exact", "getMessage", "native", "volatile", "instanceof", "System.out", "Thread", "Random"};
        for (String word : never) {
            need(!source.contains(word), "the source holds " + word);
        }
        Matcher imports = Pattern.compile("(?m)^import (.*);$").matcher(source);
        while (imports.find()) {
            need(imports.group(1).equals("java.util.NoSuchElementException"), "imported: " + imports.group(1));
        }
        Set<String> open = new TreeSet<>();
        for (Method method : SmokeGates.class.getMethods()) {
            if (method.getDeclaringClass() == SmokeGates.class) {
                open.add(method.getName());
            }
        }
        for (Method method : SmokeGates.class.getDeclaredMethods()) {
            need(!Modifier.isPrivate(method.getModifiers()) || !open.contains(method.getName()),
                "a private method bears the name " + method.getName());
        }
        List<Class<?>> all = new ArrayList<>(List.of(SmokeGates.class.getDeclaredClasses()));
        need(all.size() <= 11, "too many classes");
        for (Class<?> c : all) {
            need(Modifier.isStatic(c.getModifiers()), c.getName() + " is not static");
            for (Method method : c.getDeclaredMethods()) {
                need(!open.contains(method.getName()), c.getName() + "." + method.getName() + " is a name of the face");
                need(method.getParameterCount() <= 7, "too many parameters");
            }
        }
    }

    /** All calls of a run live in one room: behind the constructor no call may make anything. */
    private static void checkCallsMakeNothing() {
        com.sun.management.ThreadMXBean counter =
            (com.sun.management.ThreadMXBean) ManagementFactory.getThreadMXBean();
        SmokeGates gates = new SmokeGates();
        long id = Thread.currentThread().getId();
        for (int i = 0; i < 3; i++) {
            callAll(gates);
        }
        long before = counter.getThreadAllocatedBytes(id);
        for (int i = 0; i < 20; i++) {
            callAll(gates);
        }
        long made = counter.getThreadAllocatedBytes(id) - before;
        need(made < 20000, made + " bytes were made by calls");
    }

    // "gate 1;gate 2;wood 9 9 9 9;comer 0 3 2;", "log 0 0;hour;log 1 0", "smoke - 3*logs", "0 1;"
    private static final int[] TOWN = {0x67617465, 0x20313b67, 0x61746520, 0x323b776f, 0x6f642039,
        0x20392039, 0x20393b63, 0x6f6d6572, 0x20302033, 0x20323b20};
    private static final int[] WORK = {0x6c6f6720, 0x3020303b, 0x686f7572, 0x3b6c6f67, 0x20312030,
        0x3b202020, 0x20202020, 0x20202020, 0x20202020, 0x20202020};
    private static final int[] LAW = {0x736d6f6b, 0x65202d20, 0x332a6c6f, 0x67732020, 0x20202020};

    private static void feed(SmokeGates gates, int[] numbers) {
        for (int i = 0; i + 5 <= numbers.length; i += 5) {
            gates.feed(numbers[i], numbers[i + 1], numbers[i + 2], numbers[i + 3], numbers[i + 4]);
        }
    }

    private static void callAll(SmokeGates gates) {
        feed(gates, TOWN);
        need(gates.town(40) == 2, "the town is told");
        feed(gates, LAW);
        need(gates.law(20) == 1, "the law is told");
        feed(gates, WORK);
        need(gates.work(40) == 3, "the work is done");
        gates.feed(0x3020313b, 0, 0, 0, 0);
        need(gates.book(4) == 1, "the book is told");
        gates.image();
        gates.keeps(0, 0, 5, 21, 1);
        gates.thief(0, 1);
        gates.guard(24, 1);
        gates.lean(0, 3, 1);
        gates.fits(1);
        gates.nose(0);
        gates.burnt(1);
        gates.share(0, 3, 1);
        gates.turned(96);
        gates.thickest(0);
        gates.ahead(96, 2);
        gates.span(5, 20, 8, 96, 0);
        gates.days(5, 8, 96, 2);
        gates.when(0, 1);
        gates.shut(1, 30);
        gates.crowd(1);
        gates.seems();
        gates.closest();
        gates.undo();
        gates.restore();
    }
}
