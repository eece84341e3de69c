import java.io.IOException;
import java.nio.charset.StandardCharsets;
import java.nio.file.Files;
import java.nio.file.Path;
import java.util.HashSet;
import java.util.List;
import java.util.Map;
import java.util.Set;
import java.util.TreeMap;
import java.util.regex.Matcher;
import java.util.regex.Pattern;
import java.util.stream.Stream;

/**
 * The titles in src/test/runs/boundaries-*.txt name sentences of the document: each is there, word by
 * word, in its promise or among the terms; and no sentence of the terms or the promises is left out.
 * ScriptRuns plays the tests below the titles.
 */
public final class BoundarySentences {
    private static final int PROMISES = 40;
    private static final String OBJECT = "What it is";
    private static final String TERMS = "Terms";
    private static final Pattern TITLE = Pattern.compile("## promise (\\d+): \"(.*)\"( -- [^\"]*)?");
    // Between two sentences: names of what is told next, and words that join.
    private static final Pattern JOINING = Pattern.compile("[A-Z]+|or|by|from|a|n");

    private static final Map<String, String> SECTIONS = new TreeMap<>();
    private static final Map<String, boolean[]> QUOTED = new TreeMap<>();
    private static final Set<String> TITLES = new HashSet<>();
    private static final Set<Integer> TESTED = new HashSet<>();
    private static int wrong = 0;

    private BoundarySentences() {
    }

    public static void main(String[] args) throws IOException {
        Path root = Path.of(args[0]);
        readSections(Files.readString(root.resolve("../shared/DOC.md"), StandardCharsets.UTF_8));
        List<Path> files;
        try (Stream<Path> all = Files.list(root.resolve("src/test/runs"))) {
            files = all.filter(p -> p.getFileName().toString().startsWith("boundaries-")).sorted().toList();
        }
        for (Path file : files) {
            readTitles(file);
        }
        for (int promise = 1; promise <= PROMISES; promise++) {
            need(TESTED.contains(promise), "no boundary test for promise " + promise);
            checkAllQuoted("Promise " + promise);
        }
        checkAllQuoted(TERMS);
        System.out.println(TITLES.size() + " boundary tests, " + wrong + " faults");
        if (wrong != 0) {
            System.exit(1);
        }
    }

    private static void need(boolean good, String what) {
        if (!good) {
            wrong++;
            System.out.println(what);
        }
    }

    /** A section's text without the signature at its head, without marks, with single blanks. */
    private static void readSections(String document) {
        for (String section : document.split("(?m)^## ")) {
            String[] parts = section.split("\n", 2);
            String text = parts.length < 2 ? "" : parts[1];
            text = text.replaceAll("```(text)?", " ").replaceAll("(?m)^`[^`]*`: ", " ");
            text = text.replaceAll("==== \\d\\.", " ").replaceAll("\\s+", " ");
            String name = parts[0].replaceAll(":.*", "").trim();
            SECTIONS.put(name, text);
            QUOTED.put(name, new boolean[text.length()]);
        }
        for (int promise = 1; promise <= PROMISES; promise++) {
            need(SECTIONS.containsKey("Promise " + promise), "the document has no promise " + promise);
        }
        need(SECTIONS.containsKey(TERMS) && SECTIONS.containsKey(OBJECT), "the document has no terms");
    }

    private static void readTitles(Path file) throws IOException {
        for (String line : Files.readAllLines(file, StandardCharsets.ISO_8859_1)) {
            if (!line.startsWith("## ")) {
                continue;
            }
            Matcher title = TITLE.matcher(line);
            need(TITLES.add(line), "twice: " + line);
            if (!title.matches()) {
                need(false, "names no sentence: " + line);
                continue;
            }
            int promise = Integer.parseInt(title.group(1));
            TESTED.add(promise);
            boolean there = quote("Promise " + promise, title.group(2));
            there |= quote(TERMS, title.group(2));
            there |= quote(OBJECT, title.group(2));
            need(there, "the document does not say: " + line);
        }
    }

    private static boolean quote(String section, String sentence) {
        String text = SECTIONS.getOrDefault(section, "");
        int at = text.indexOf(sentence);
        boolean there = at >= 0;
        while (at >= 0) {
            for (int i = at; i < at + sentence.length(); i++) {
                QUOTED.get(section)[i] = true;
            }
            at = text.indexOf(sentence, at + 1);
        }
        return there;
    }

    private static void checkAllQuoted(String section) {
        StringBuilder left = new StringBuilder(SECTIONS.getOrDefault(section, ""));
        for (int i = 0; i < left.length(); i++) {
            if (QUOTED.get(section)[i]) {
                left.setCharAt(i, ' ');
            }
        }
        for (String word : left.toString().split("[^A-Za-z0-9]+")) {
            need(word.isEmpty() || JOINING.matcher(word).matches(), section + ": no test names: " + word);
        }
    }
}
