import java.io.IOException;
import java.nio.file.Files;
import java.nio.file.Path;
import java.util.ArrayList;
import java.util.List;
import java.util.Map;
import java.util.TreeMap;

/** The sentences of the document's terms and promises. */
final class Document {
    private static final Path PLACE = Path.of("../shared/DOC.md");

    private Document() {
    }

    static boolean isThere() {
        return Files.isReadable(PLACE);
    }

    /** By section: "Terms", "Promise 1" and so on. */
    static Map<String, List<String>> sentences() throws IOException {
        Map<String, List<String>> bySection = new TreeMap<>();
        String section = "";
        for (String line : Files.readAllLines(PLACE)) {
            if (line.startsWith("## ")) {
                section = line.substring(3).replaceFirst(":.*", "");
            } else if (section.equals("Terms") || section.startsWith("Promise ")) {
                bySection.computeIfAbsent(section, s -> new ArrayList<>()).addAll(split(line));
            }
        }
        return bySection;
    }

    /** Two full stops ("0 .. 3") end no sentence. */
    private static List<String> split(String line) {
        String text = line.strip().replaceFirst("^\\d\\. ", "").replaceFirst("^`[^`]*`: ", "");
        List<String> sentences = new ArrayList<>();
        for (String sentence : text.split("(?<=[^.]\\.|\\.\\)) +(?=[A-Z(])")) {
            if (!sentence.isBlank() && !sentence.startsWith("```")) {
                sentences.add(sentence);
            }
        }
        return sentences;
    }
}
