import java.io.IOException;
import java.nio.file.Files;
import java.nio.file.Path;
import java.util.ArrayList;
import java.util.LinkedHashMap;
import java.util.List;
import java.util.Map;

/** The text of the document, and which of its sentences have a test of their own. */
final class Document {
    // The document tells these two headings without a mark.
    private static final List<String> UNMARKED = List.of("Entries, words", "The paper, reading");

    private final Map<String, List<String>> sections = new LinkedHashMap<>();
    private final Map<String, List<String>> tested = new LinkedHashMap<>();
    private String heading = "";

    Document(Path file) throws IOException {
        String found = "";
        for (String line : Files.readAllLines(file)) {
            if (line.startsWith("#") || UNMARKED.contains(line.trim())) {
                found = line.replaceFirst("^#+", "").trim();
                sections.put(found, new ArrayList<>());
            } else if (sections.containsKey(found) && !line.isBlank()) {
                // A line of a promise begins with the call, which FaceTest looks at.
                sections.get(found).add(line.trim().replaceFirst("^`[^`]*`: ", ""));
            }
        }
    }

    /** The sentences that come next stand under this heading. */
    void under(String title) {
        heading = title;
        Check.holds("the document has the heading " + title, sections.containsKey(title));
    }

    /** Runs the test of a sentence, or of a part of one, and says so if the sentence is broken. */
    void says(String sentence, Runnable test) {
        List<String> lines = sections.getOrDefault(heading, List.of());
        Check.holds("under " + heading + " the document says: " + sentence,
                lines.stream().anyMatch(line -> line.contains(sentence)));
        tested.computeIfAbsent(heading, key -> new ArrayList<>()).add(sentence);
        int right = Check.rightSoFar();
        int wrong = Check.wrongSoFar();
        try {
            test.run();
        } catch (RuntimeException e) {
            Check.holds("that nothing throws out of turn, as " + e, false);
        }
        if (Check.wrongSoFar() > wrong) {
            System.out.println("BROKEN: " + heading + ": " + sentence);
        } else {
            Check.holds("that something was looked at for: " + sentence, Check.rightSoFar() > right);
        }
    }

    /** Each sentence of the terms and of the promises, in its parts, has been tested. */
    void everySentenceIsTested() {
        boolean terms = false;
        for (String title : sections.keySet()) {
            terms = !title.startsWith("Promise ") && (terms || title.equals("Terms")) && !title.equals("Not promised");
            if (terms || title.startsWith("Promise ")) {
                sections.get(title).forEach(line -> everyPartIsTested(title, line));
            }
        }
    }

    private void everyPartIsTested(String title, String line) {
        // How the interface is parted says nothing of what a call does.
        if (line.startsWith("Ahead of the calls")) {
            return;
        }
        for (String part : line.split("(?<=[.;]) ")) {
            String words = part.replaceFirst("[.;]$", "");
            Check.holds("that a test is made under " + title + " for: " + words,
                    tested.getOrDefault(title, List.of()).stream().anyMatch(quote -> quote.contains(words)));
        }
    }
}
