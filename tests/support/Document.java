import java.nio.file.Files;
import java.nio.file.Path;
import java.util.ArrayList;
import java.util.LinkedHashMap;
import java.util.List;
import java.util.Map;

/** The document's sections by their names, each as one line of words. */
final class Document {
    private final Map<String, String> sections = new LinkedHashMap<>();

    static Document read() {
        Document document = new Document();
        try {
            document.cut(Files.readString(Path.of("../shared/DOC.md")));
        } catch (java.io.IOException e) {
            throw new IllegalStateException("../shared/DOC.md can't be read", e);
        }
        return document;
    }

    private void cut(String text) {
        String section = "";
        boolean told = false;
        for (String line : text.split("\n")) {
            if (line.startsWith("## ")) {
                told = line.startsWith("## Terms") || line.startsWith("## Promise ");
                section = line.substring(3).replaceAll(":.*", "");
            } else if (line.startsWith("==== ")) {
                section = line.substring(5);
            } else if (told && !line.startsWith("```")) {
                if (line.startsWith("REFUSALS ")) {
                    section = "REFUSALS";
                }
                sections.merge(section, line.replaceAll("`[^`]*`: ", "").trim(), (a, b) -> (a + " " + b).trim());
            }
        }
        sections.values().removeIf(String::isEmpty);
    }

    List<String> names() {
        return new ArrayList<>(sections.keySet());
    }

    String section(String name) {
        return sections.getOrDefault(name, "");
    }
}
