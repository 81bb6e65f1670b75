import java.io.IOException;
import java.nio.charset.StandardCharsets;
import java.nio.file.Files;
import java.nio.file.Path;
import java.util.ArrayList;
import java.util.List;

/** The document's words, so that each test of a boundary case stands behind a sentence that is really there. */
final class Document {
    /** The number of all that stands before the first promise. */
    static final int BEFORE = 0;
    static final int PROMISES = 31;

    private static final Path PLACE = Path.of("../shared/DOC.md");

    private final boolean isThere = Files.exists(PLACE);
    private final List<List<String>> lines = new ArrayList<>();
    private final List<List<String>> quoted = new ArrayList<>();

    Document() throws IOException {
        for (int i = 0; i <= PROMISES; i++) {
            lines.add(new ArrayList<>());
            quoted.add(new ArrayList<>());
        }
        if (!isThere) {
            System.out.println(PLACE + " is not there: the calls are tested, but the sentences are not looked up");
            return;
        }
        int promise = BEFORE;
        for (String line : Files.readAllLines(PLACE, StandardCharsets.UTF_8)) {
            if (line.startsWith("## Not promised")) {
                return;
            }
            if (line.startsWith("## Promise ")) {
                promise = Integer.parseInt(line.substring(11, line.indexOf(':')));
            } else if (!line.isBlank()) {
                lines.get(promise).add(line);
            }
        }
    }

    /** Notes that a test stands for these words; false if the document does not say them there. */
    boolean quote(int promise, String words) {
        quoted.get(promise).add(words);
        return !isThere || String.join(" ", lines.get(promise)).contains(words);
    }

    /** The lines of the promises that no test stands for, not even in part. */
    List<String> linesLeftOut() {
        List<String> left = new ArrayList<>();
        for (int promise = 1; promise <= PROMISES; promise++) {
            String all = String.join(" ", lines.get(promise));
            int from = 0;
            for (String line : lines.get(promise)) {
                if (!isQuoted(promise, all, from, from + line.length())) {
                    left.add("promise " + promise + ": " + line);
                }
                from += line.length() + 1;
            }
        }
        return left;
    }

    private boolean isQuoted(int promise, String all, int from, int to) {
        for (String words : quoted.get(promise)) {
            int at = all.indexOf(words);
            if (at >= 0 && at < to && at + words.length() > from) {
                return true;
            }
        }
        return false;
    }
}
