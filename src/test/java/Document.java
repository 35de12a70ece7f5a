import java.io.IOException;
import java.nio.file.Files;
import java.nio.file.Path;
import java.util.LinkedHashMap;
import java.util.List;
import java.util.Map;
import java.util.regex.Matcher;
import java.util.regex.Pattern;

/**
 * The document by its places and their sentences. A place is a promise ("promise02"), or a
 * paragraph ahead of them by its first word ("street", "object", "people", "sales", .. "refusals").
 */
final class Document {
    private static final Path PATH = Path.of("../shared/DOC.md");
    private static final Pattern PROMISE = Pattern.compile("## Promise (\\d+): .*");
    private static final Pattern FIRST_WORD = Pattern.compile("(?:THE |An )?([A-Za-z]+).*");
    private static final String SENTENCE_END = "(?<=[^.\\s])\\.(?:\\s+(?=[A-Z])|$)";

    private final Map<String, List<String>> sentences = new LinkedHashMap<>();

    private Document(List<String> lines) {
        String promise = null;
        boolean face = false;
        for (String line : lines) {
            Matcher heading = PROMISE.matcher(line);
            if (heading.matches()) {
                promise = place(Integer.parseInt(heading.group(1)));
            } else if (line.equals("## Not promised")) {
                return;
            } else if (line.startsWith("```")) {
                face = line.equals("```java");
            } else if (!face && !line.isBlank() && !line.startsWith("#")) {
                take(line.trim(), promise);
            }
        }
    }

    static boolean isThere() {
        return Files.exists(PATH);
    }

    static Document read() {
        try {
            return new Document(Files.readAllLines(PATH));
        } catch (IOException e) {
            throw new IllegalStateException(e);
        }
    }

    static String place(int promise) {
        return String.format("promise%02d", promise);
    }

    Map<String, List<String>> sentences() {
        return sentences;
    }

    /** A sentence by its place and its number in it (from 1 on); none: an empty one. */
    String sentence(String place, int number) {
        List<String> all = sentences.getOrDefault(place, List.of());
        return number < 1 || number > all.size() ? "" : all.get(number - 1);
    }

    private void take(String line, String promise) {
        if (line.startsWith("Ahead of the calls")) {
            return;
        }
        String text = line.replaceFirst("^.*======== \\d ", "").replaceFirst("^`[^`]*`: ", "");
        Matcher word = FIRST_WORD.matcher(text);
        String place = promise != null ? promise : word.matches() ? word.group(1).toLowerCase() : "";
        sentences.put(place, List.of(text.split(SENTENCE_END)));
    }
}
