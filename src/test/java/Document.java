import java.io.IOException;
import java.nio.file.Files;
import java.nio.file.Path;
import java.util.ArrayList;
import java.util.LinkedHashMap;
import java.util.List;
import java.util.Map;
import java.util.regex.Pattern;

/** The sentences of the document by its sections ("Terms", "Promise 2", ..). */
final class Document {
    private static final Pattern BOUNDARY = Pattern.compile("^Throws |\\d|\\b(no|none|nobody|nothing|empty|another|same"
            + "|most|least|last|still|without|kept|malformed|earlier|again)\\b");

    private final Map<String, List<String>> sections = new LinkedHashMap<>();

    Document(Path path) throws IOException {
        for (String section : Files.readString(path).split("(?m)^## ")) {
            int end = section.indexOf('\n');
            String title = section.substring(0, end).replaceFirst("(Promise \\d+): .*", "$1");
            sections.put(title, sentencesOf(section.substring(end)));
        }
    }

    boolean has(String section, String sentence) {
        return sections.getOrDefault(section, List.of()).contains(sentence);
    }

    /** All sentences that name a boundary case, as far as their words tell, each behind its section. */
    List<String> boundaries() {
        List<String> found = new ArrayList<>();
        sections.forEach((section, sentences) -> {
            for (String sentence : sentences) {
                boolean promised = section.startsWith("Promise") || section.equals("Terms") || section.equals("What "
                        + "it is");
                if (promised && BOUNDARY.matcher(sentence).find()) {
                    found.add(section + ": " + sentence);
                }
            }
        });
        return found;
    }

    private static List<String> sentencesOf(String section) {
        List<String> sentences = new ArrayList<>();
        for (String paragraph : section.split("\n\n|\n(?=- )")) {
            String text = paragraph.strip().replaceAll("\\s+", " ").replaceFirst("^`[^`]*\\)[^`]*`: ", "");
            for (String sentence : text.split("(?<=\\.) (?=[A-Z])")) {
                if (!sentence.isEmpty()) {
                    sentences.add(sentence);
                }
            }
        }
        return sentences;
    }
}
