import java.io.IOException;
import java.nio.file.Files;
import java.nio.file.Path;
import java.util.ArrayList;
import java.util.HashMap;
import java.util.HashSet;
import java.util.List;
import java.util.Map;
import java.util.Set;

/**
 * Tests that are bound to the sentences of the document: each test quotes what it is for. A quote that
 * the document does not have is wrong, and so is a sentence that no test quotes.
 */
final class Edges {
    private static final Path DOCUMENT = Path.of("../shared/DOC.md");

    private final Map<String, List<String>> sentences = new HashMap<>();
    private final Map<String, Set<String>> quoted = new HashMap<>();
    private final List<String> quotes = new ArrayList<>();
    private String section = "";

    Edges() throws IOException {
        if (!Files.isReadable(DOCUMENT)) {
            System.out.println(DOCUMENT + " can't be read here: the quotes are not compared with it");
            return;
        }
        for (String part : Files.readString(DOCUMENT).split("(?m)^## ")) {
            int end = part.indexOf('\n');
            sentences.put(part.substring(0, end), sentencesOf(part.substring(end)));
        }
    }

    private static List<String> sentencesOf(String part) {
        List<String> found = new ArrayList<>();
        for (String line : part.split("\n")) {
            String text = line.strip().replaceFirst("^`[^`]*`: ", "").replace("```text", "").replace("```", "");
            for (String sentence : text.split("(?<=\\.)\\s+")) {
                if (!sentence.isBlank()) {
                    found.add(sentence);
                }
            }
        }
        return found;
    }

    /** The section of the document that the tests behind this are for, by its title's beginning. */
    void section(String title) {
        section = title;
        for (String whole : sentences.keySet()) {
            section = whole.startsWith(title + ":") ? whole : section;
        }
        quoted.putIfAbsent(section, new HashSet<>());
    }

    /** Names a sentence, or a part of one, that the next test is for. */
    Edges says(String quote) {
        quotes.add(quote);
        quoted.get(section).add(quote);
        if (!sentences.isEmpty()) {
            boolean found = sentences.getOrDefault(section, List.of()).stream().anyMatch(s -> s.contains(quote));
            Check.due("the document says in " + section + ": " + quote, found, true);
        }
        return this;
    }

    /** The test of what was named. */
    void holds(Runnable test) {
        Check.at(section + ": " + String.join(" / ", quotes));
        quotes.clear();
        test.run();
        Check.at("");
    }

    /**
     * Ends the sections that were begun, among them all whose title begins so: each of their sentences has a
     * test, or is one of the plain ones.
     */
    void end(String titles, Set<String> plain) {
        for (String title : sentences.keySet()) {
            Check.due("there are tests for " + title, title.startsWith(titles) && !quoted.containsKey(title), false);
        }
        for (String title : quoted.keySet()) {
            for (String sentence : sentences.getOrDefault(title, List.of())) {
                boolean found = plain.contains(sentence) || quoted.get(title).stream().anyMatch(sentence::contains);
                Check.due("there is a test in " + title + " for: " + sentence, found, true);
            }
        }
    }
}
