import java.io.IOException;
import java.nio.file.Files;
import java.nio.file.Path;
import java.util.ArrayList;
import java.util.Comparator;
import java.util.LinkedHashMap;
import java.util.List;
import java.util.Map;

/**
 * A heading of the document and the sentences under it. A test quotes each sentence that it tests:
 * a quote that the document does not have is wrong, and so is a sentence that no test quotes.
 */
final class Page {
    private static final Path DOCUMENT = Path.of("../shared/DOC.md");
    private static final Map<String, Page> PAGES = new LinkedHashMap<>();

    private final String heading;
    private final StringBuilder sentences = new StringBuilder();
    private final List<String> quotes = new ArrayList<>();

    private Page(String heading) {
        this.heading = heading;
    }

    /** The page whose heading begins so: "Promise 2:", say. */
    static Page of(String heading) {
        if (PAGES.isEmpty()) {
            readDocument();
        }
        for (Page page : PAGES.values()) {
            if (page.heading.startsWith(heading)) {
                return page;
            }
        }
        Check.dueTrue("the document has the heading " + heading, false);
        return new Page(heading);
    }

    private static void readDocument() {
        try {
            Page page = new Page("");
            for (String line : Files.readAllLines(DOCUMENT)) {
                if (line.startsWith("#") || line.equals("Snapshots, undo")) {
                    page = new Page(line.replaceAll("^#+ ", ""));
                    PAGES.put(page.heading, page);
                } else {
                    page.sentences.append(withoutSignature(line)).append('\n');
                }
            }
        } catch (IOException e) {
            Check.dueTrue("the document can be read: " + e, false);
        }
    }

    /** FaceTest tests the signatures; the numbers and dots of the list of a step tell nothing. */
    private static String withoutSignature(String line) {
        return line.replaceAll("^`[^`]*`: ", "").replaceAll("^Ahead of .* ---- ", "").replaceAll("^- (\\d[.] )?", "");
    }

    /** What follows in the test is about this sentence. */
    void tells(String sentence) {
        Check.dueTrue(heading + " tells: " + sentence, sentences.indexOf(sentence) >= 0);
        quotes.add(sentence);
    }

    /** Every sentence from the one heading to the other is quoted by a test. */
    static void dueAllQuoted(String first, String last) {
        boolean within = false;
        for (Page page : PAGES.values()) {
            within |= page.heading.startsWith(first);
            if (within) {
                String left = page.unquoted();
                Check.dueTrue("each sentence under " + page.heading + " is tested, but not: " + left, left.isEmpty());
            }
            within &= !page.heading.startsWith(last);
        }
    }

    private String unquoted() {
        String left = sentences.toString();
        quotes.sort(Comparator.comparingInt(String::length).reversed());
        for (String quote : quotes) {
            left = left.replace(quote, " ");
        }
        return left.matches("[^\\p{Alnum}]*") ? "" : left.strip();
    }
}
