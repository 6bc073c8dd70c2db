import java.io.IOException;
import java.nio.file.Files;
import java.nio.file.Path;
import java.util.LinkedHashMap;
import java.util.Map;

/** What ../shared/DOC.md says below each of its headings. */
final class Document {
    private static final Path PLACE = Path.of("..", "shared", "DOC.md");

    private final Map<String, String> sections = new LinkedHashMap<>();

    Document() throws IOException {
        for (String section : Files.readString(PLACE).split("(?m)^## ")) {
            int end = section.indexOf('\n');
            sections.put(section.substring(0, end).trim(), section.substring(end));
        }
    }

    Iterable<String> headings() {
        return sections.keySet();
    }

    String text(String heading) {
        return sections.getOrDefault(heading, "");
    }

    /** The lines run together, without the fence round the rules of merging or the head of a promise's method. */
    String prose(String heading) {
        return text(heading).replaceAll("(?m)^```.*$", "").replaceAll("\\s+", " ").trim().replaceFirst("^`[^`]*`: ", "");
    }
}
