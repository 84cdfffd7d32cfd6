import java.io.IOException;
import java.nio.charset.StandardCharsets;
import java.nio.file.Files;
import java.nio.file.Path;
import java.util.ArrayList;
import java.util.BitSet;
import java.util.List;
import java.util.Map;
import java.util.TreeMap;
import java.util.regex.Matcher;
import java.util.regex.Pattern;

/**
 * The words of ../shared/DOC.md that promise something: "Terms" (part 0) and the promises (parts 1 to 29), and which of
 * them are quoted by a test.
 */
final class Document {
    private static final Path PATH = Path.of("../shared/DOC.md");
    private static final Pattern HEADING = Pattern.compile("## (?:(Terms)|Promise (\\d+): .*|.*)");
    /** What says nothing by itself: the face of a method, the titles under "Terms", and what the interface says ahead of calls. */
    private static final Pattern FRAME = Pattern.compile("^`\\w[\\w ]*\\([^)]*\\)`: |\\bReturns\\b"
            + "|(?:Lines and forms|Pages|Room beside|Bound|Hints|Text|Undo|Error codes)\\. (?=[A-Z])|The constants: "
            + "|Ahead of the calls [^.]*\\.");

    private final Map<Integer, String> parts = new TreeMap<>();
    private final Map<Integer, BitSet> quoted = new TreeMap<>();

    Document() throws IOException {
        Map<Integer, StringBuilder> texts = new TreeMap<>();
        int part = -1;
        for (String line : Files.readAllLines(PATH, StandardCharsets.UTF_8)) {
            Matcher heading = HEADING.matcher(line);
            if (heading.matches()) {
                part = heading.group(1) != null ? 0 : heading.group(2) != null ? Integer.parseInt(heading.group(2)) : -1;
            } else if (part >= 0 && !line.isBlank()) {
                texts.computeIfAbsent(part, p -> new StringBuilder()).append(line.strip()).append(' ');
            }
        }
        texts.forEach(this::put);
    }

    private void put(int part, StringBuilder text) {
        parts.put(part, text.toString());
        BitSet marks = new BitSet();
        Matcher frame = FRAME.matcher(text);
        while (frame.find()) {
            marks.set(frame.start(), frame.end());
        }
        quoted.put(part, marks);
    }

    int numberOfParts() {
        return parts.size();
    }

    /** Marks the words as quoted, and tells whether they stand in this part. */
    boolean quote(int part, String words) {
        int at = parts.getOrDefault(part, "").indexOf(words);
        if (at >= 0) {
            quoted.get(part).set(at, at + words.length());
        }
        return at >= 0;
    }

    /** The words that no test has quoted. */
    List<String> unquoted() {
        List<String> found = new ArrayList<>();
        parts.forEach((part, text) -> {
            StringBuilder rest = new StringBuilder();
            for (int i = 0; i < text.length(); i++) {
                rest.append(quoted.get(part).get(i) ? '|' : text.charAt(i));
            }
            for (String words : rest.toString().split("\\|+")) {
                if (words.matches(".*\\w.*")) {
                    found.add((part == 0 ? "Terms" : "Promise " + part) + ": " + words.strip());
                }
            }
        });
        return found;
    }
}
