import java.io.IOException;
import java.nio.file.Files;
import java.nio.file.Path;
import java.util.ArrayList;
import java.util.LinkedHashMap;
import java.util.List;
import java.util.Map;
import java.util.regex.Matcher;
import java.util.regex.Pattern;

/** The sentences of ../shared/DOC.md, and which of them have a test; and its examples. */
final class Document {
    private static final Path FILE = Path.of("../shared/DOC.md");
    private static final Map<String, String> SECTIONS = sections();
    private static final Map<String, List<String>> TESTED = new LinkedHashMap<>();

    private Document() {
    }

    /** Each section's text by its title; of 'Promise 9: kind' the title is 'Promise 9'. */
    private static Map<String, String> sections() {
        Map<String, String> found = new LinkedHashMap<>();
        for (String part : read().split("(?m)^## ")) {
            int end = Math.max(0, part.indexOf('\n'));
            found.put(part.substring(0, end).replaceAll(":.*", "").trim(), part.substring(end));
        }
        return found;
    }

    /** The answers are due without the document, too; only the words cannot be compared then. */
    private static String read() {
        try {
            return Files.readString(FILE);
        } catch (IOException e) {
            System.out.println("no document at " + FILE + ": its words are not compared");
            return "";
        }
    }

    static boolean isThere() {
        return SECTIONS.containsKey("Description");
    }

    private static String oneLine(String s) {
        return s.replaceAll("\\s+", " ").trim();
    }

    static void isTested(String section, String words) {
        TESTED.computeIfAbsent(section, key -> new ArrayList<>()).add(words);
        boolean stands = !isThere() || oneLine(SECTIONS.getOrDefault(section, "")).contains(words);
        Check.same("that these words stand in the document", true, stands);
    }

    /** Every sentence that a caller can rely on must have been named by a test. */
    static void checkAllTested() {
        if (!isThere()) {
            return;
        }
        Check.same("the sections that are tested", sentencesBySection().keySet(), TESTED.keySet());
        for (Map.Entry<String, List<String>> section : sentencesBySection().entrySet()) {
            for (String sentence : section.getValue()) {
                boolean tested = false;
                for (String words : TESTED.getOrDefault(section.getKey(), List.of())) {
                    tested = tested || sentence.contains(words) || words.contains(sentence);
                }
                Check.same("a test for, in " + section.getKey() + ": " + sentence, true, tested);
            }
        }
    }

    private static Map<String, List<String>> sentencesBySection() {
        Map<String, List<String>> found = new LinkedHashMap<>();
        for (Map.Entry<String, String> section : SECTIONS.entrySet()) {
            String title = section.getKey();
            if (title.equals("What it is") || title.equals("Description") || title.startsWith("Promise")) {
                found.put(title, sentences(section.getValue()));
            }
        }
        return found;
    }

    private static List<String> sentences(String text) {
        List<String> found = new ArrayList<>();
        // The examples have a test of their own, ExamplesTest.
        String rest = text.replaceAll("(?s)\nExamples: .*", "");
        for (String line : rest.split("\n")) {
            boolean signature = line.startsWith("`") || line.startsWith("- `") || line.startsWith("----");
            for (String sentence : signature ? new String[0] : oneLine(line).split("(?<=[.])\\s")) {
                // What is shorter is the number of a step, or a word before one.
                if (sentence.length() > 12) {
                    found.add(sentence);
                }
            }
        }
        return found;
    }

    /** An example: the text that it puts in, and its calls, each one as "call = result". */
    record Example(String text, List<String> calls) {
    }

    static List<Example> examples() {
        List<Example> found = new ArrayList<>();
        String description = SECTIONS.getOrDefault("Description", "");
        Matcher line = Pattern.compile("(?m)^ +[0-9]+\\. [^\"\n]*\"([^\"\n]*)\"; (.*)\\.$").matcher(description);
        while (line.find()) {
            found.add(new Example(line.group(1).replace("\\n", "\n"), List.of(line.group(2).split("; "))));
        }
        return found;
    }
}
