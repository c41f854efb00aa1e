import java.io.IOException;
import java.nio.file.Files;
import java.nio.file.Path;
import java.util.ArrayList;
import java.util.List;
import java.util.TreeSet;
import java.util.stream.Stream;

/**
 * The cases under src/test/edges. A line "## " names a section of the document, a line "> " quotes one of its
 * sentences and begins a case (or, right behind another one, belongs to the same), "! " quotes what no run of
 * calls can show. The other lines are calls on a new light, or write a text: write "clear 5;", or write one in
 * place of the text that is there and tell the index and reason of its fault, fault "clear 0;" = 0 3, or how many
 * items it has, good "clear 5;" = 1.
 */
final class Edges {
    /** Sentences of the document, and the calls that show that they hold. */
    static final class Case {
        final String section;
        final String where;
        final List<String> quotes = new ArrayList<>();
        final List<Call> calls = new ArrayList<>();

        Case(String section, String where) {
            this.section = section;
            this.where = where;
        }
    }

    final List<Case> cases = new ArrayList<>();
    private String section = "";
    private Case open;

    static Edges read(Path folder) throws IOException {
        Edges edges = new Edges();
        try (Stream<Path> files = Files.list(folder)) {
            for (Path file : new TreeSet<>(files.toList())) {
                edges.readFile(file);
            }
        }
        return edges;
    }

    private void readFile(Path file) throws IOException {
        int number = 0;
        for (String line : Files.readAllLines(file)) {
            number++;
            String where = file.getFileName() + ":" + number;
            try {
                readLine(line.trim(), where);
            } catch (RuntimeException e) {
                throw new IllegalArgumentException(where + ": " + line, e);
            }
        }
    }

    private void readLine(String line, String where) {
        if (line.isEmpty() || line.startsWith("# ")) {
            return;
        }
        if (line.startsWith("## ")) {
            section = line.substring(3);
            open = null;
        } else if (line.startsWith("> ") || line.startsWith("! ")) {
            if (open == null || !open.calls.isEmpty()) {
                open = new Case(section, where);
                cases.add(open);
            }
            open.quotes.add(line.substring(2));
        } else if (line.startsWith("write \"")) {
            open.calls.addAll(Call.write(quoted(line)));
        } else if (line.startsWith("fault \"")) {
            String[] due = behind(line).split(" ");
            rewrite(quoted(line));
            addCalls("fault(0) = " + due[0] + ";fault(1) = " + due[1] + ";load() = -2");
        } else if (line.startsWith("good \"")) {
            rewrite(quoted(line));
            addCalls("fault({0 1}) = -4;load() = " + behind(line));
        } else {
            addCalls(line);
        }
    }

    private static String quoted(String line) {
        return line.substring(line.indexOf('"') + 1, line.lastIndexOf('"'));
    }

    private static String behind(String line) {
        return line.substring(line.lastIndexOf('"')).replaceAll("^\" = ", "");
    }

    private void rewrite(String text) {
        addCalls("clearText()");
        open.calls.addAll(Call.write(text));
    }

    private void addCalls(String line) {
        for (String call : line.split(";")) {
            open.calls.addAll(Call.read(call));
        }
    }
}
