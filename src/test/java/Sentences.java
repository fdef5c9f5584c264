import java.io.IOException;
import java.io.UncheckedIOException;
import java.nio.file.Files;
import java.nio.file.Path;
import java.util.LinkedHashMap;
import java.util.LinkedHashSet;
import java.util.Map;
import java.util.Set;

/**
 * The document by its sections and sentences, so that a test quotes the sentence that it holds, and no sentence is
 * left without a test. Where the document is not beside the checkout, each quotation is taken as it is.
 */
final class Sentences {
    static final String TERMS = "Terms";
    static final String WHAT_IT_IS = "What it is";
    private static final Path DOCUMENT = Path.of("..", "shared", "DOC.md");
    private static final Map<String, Set<String>> ALL = readDocument();
    private static final Map<String, Set<String>> LEFT = readDocument();

    private Sentences() {
    }

    static String promise(int number) {
        return "Promise " + number;
    }

    /** Marks the sentence as held, and answers whether the section has it. */
    static boolean quote(String section, String sentence) {
        if (ALL.isEmpty()) {
            return true;
        }
        LEFT.getOrDefault(section, Set.of()).remove(sentence);
        return ALL.getOrDefault(section, Set.of()).contains(sentence);
    }

    static Set<String> notQuoted(String section) {
        return LEFT.getOrDefault(section, Set.of());
    }

    private static Map<String, Set<String>> readDocument() {
        Map<String, Set<String>> sections = new LinkedHashMap<>();
        if (!Files.exists(DOCUMENT)) {
            System.out.println("no " + DOCUMENT + ": the quotations are not compared with it");
            return sections;
        }
        try {
            for (String section : Files.readString(DOCUMENT).split("\n## ")) {
                readSection(sections, section);
            }
        } catch (IOException thrown) {
            throw new UncheckedIOException(thrown);
        }
        return sections;
    }

    private static void readSection(Map<String, Set<String>> sections, String section) {
        String title = section.substring(0, section.indexOf('\n'));
        String[] paragraphs = section.substring(title.length()).split("\n\\s*\n|\n(?=- )");
        for (String paragraph : paragraphs) {
            String words = paragraph.replaceAll("\\s+", " ").strip();
            if (title.startsWith("Promise ")) {
                readPromise(sections.computeIfAbsent(title.replaceAll(":.*", ""), key -> new LinkedHashSet<>()), words);
            } else if (title.equals(TERMS) && !words.startsWith("Ahead of the calls")) {
                readTerms(sections, words);
            } else if (title.equals(WHAT_IT_IS)) {
                split(sections.computeIfAbsent(title, key -> new LinkedHashSet<>()), words);
            }
        }
    }

    /** A parameter has a sentence of its own where more is said of it than what it is. */
    private static void readPromise(Set<String> sentences, String words) {
        if (words.startsWith("- ")) {
            if (words.contains(",")) {
                sentences.add(words.substring(2));
            }
        } else if (words.startsWith("Throws ")) {
            sentences.add(words);
        } else {
            split(sentences, words.replaceFirst("^`[^`]*`: ", ""));
        }
    }

    /** A paragraph's first words are its heading, but for the first paragraph, which has none. */
    private static void readTerms(Map<String, Set<String>> sections, String words) {
        String heading = words.substring(0, words.indexOf('.') + 1);
        boolean hasHeading = heading.matches("\\w+( \\w+){0,2}\\.");
        String name = hasHeading ? heading.replace(".", "") : TERMS;
        split(sections.computeIfAbsent(name, key -> new LinkedHashSet<>()),
            hasHeading ? words.substring(heading.length()) : words);
    }

    private static void split(Set<String> sentences, String words) {
        for (String sentence : words.split("(?<=[.;])\\s+")) {
            if (!sentence.isBlank()) {
                sentences.add(sentence.strip());
            }
        }
    }
}
