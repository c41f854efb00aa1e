import java.io.IOException;
import java.nio.file.Files;
import java.nio.file.Path;
import java.util.ArrayList;
import java.util.LinkedHashMap;
import java.util.List;
import java.util.Map;

/** The document's sections, each as the list of its sentences, cut at "; " too where that stands in no brackets. */
final class Sentences {
    final Map<String, List<String>> sections = new LinkedHashMap<>();
    private List<String> open;
    private final StringBuilder paragraph = new StringBuilder();

    static Sentences read(Path document) throws IOException {
        Sentences all = new Sentences();
        boolean isCode = false;
        for (String line : Files.readAllLines(document)) {
            boolean isFence = line.startsWith("```");
            isCode ^= isFence;
            if (!isCode && !isFence) {
                all.readLine(line.trim());
            }
        }
        all.endParagraph();
        return all;
    }

    private void readLine(String line) {
        boolean isHeading = line.startsWith("#");
        boolean isSignature = line.startsWith("`") && line.endsWith("`");
        if (isHeading || isSignature || line.isEmpty() || line.startsWith("- ") || line.startsWith("----")) {
            endParagraph();
        }
        if (isHeading) {
            open = new ArrayList<>();
            sections.put(line.replaceAll("^#+ ", ""), open);
        } else if (!isSignature && !line.startsWith("----")) {
            paragraph.append(' ').append(line.startsWith("- ") ? line.substring(2) : line);
        }
    }

    private void endParagraph() {
        for (String sentence : paragraph.toString().trim().split("(?<=\\.\\)?)\\s+(?=[A-Z(])")) {
            if (!sentence.isEmpty()) {
                cut(sentence);
            }
        }
        paragraph.setLength(0);
    }

    private void cut(String sentence) {
        int depth = 0;
        int begin = 0;
        for (int i = 0; i + 1 < sentence.length(); i++) {
            char c = sentence.charAt(i);
            depth += c == '(' ? 1 : c == ')' ? -1 : 0;
            if (depth == 0 && c == ';' && sentence.charAt(i + 1) == ' ') {
                open.add(sentence.substring(begin, i));
                begin = i + 2;
            }
        }
        open.add(sentence.substring(begin));
    }

    /** Tells if a section holds the quoted words, which may go on over several of its sentences. */
    boolean hold(String section, String quote) {
        return sections.containsKey(section) && String.join("; ", sections.get(section)).replace(".; ", ". ")
            .replace(".); ", ".) ").contains(quote);
    }
}
