import java.nio.file.Files;
import java.nio.file.Path;
import java.util.Set;
import java.util.TreeSet;
import java.util.regex.Matcher;
import java.util.regex.Pattern;

/** What LANGUAGE.md rules out, as far as the words of the file show it. */
public final class RulesTest {
    private static final Check C = new Check("RulesTest");
    private static final String[] RULED_OUT = {
        "\\bimport\\b", "\\bpackage\\b", "\\btry\\b", "\\bcatch\\b", "\\bfinally\\b", "\\bthrow", "->", "::",
        "\\bsynchronized\\b", "\\bassert\\b", "\\binstanceof\\b", "\\bvar\\b", "\\bprotected\\b",
        "\\bFloat\\b", "\\bDouble\\b", "\\bMath\\.(?!floorDiv)", "Exact\\b", "\\bequals\\b", "\\bhashCode\\b",
        "\\btoString\\b", "\\bstatic\\s*\\{", "\\bwhile \\(true\\)", "\\bfor \\(;", "\\[\\]\\s*\\[\\]\\s*\\["
    };

    public static void main(String[] args) throws Exception {
        String file = Files.readString(Path.of("src/main/java/HarborLight.java"));
        for (int i = 0; i < file.length(); i++) {
            if (file.charAt(i) > 127) {
                C.due("a sign of the file", file.charAt(i), 127);
            }
        }
        String code = file.replaceAll("(?s)/\\*.*?\\*/", "").replaceAll("//.*", "");
        for (String words : RULED_OUT) {
            C.isTrue("no " + words, !Pattern.compile(words).matcher(code).find());
        }
        library(code);
        objects(code);
        lengths(code);
        C.end();
    }

    /** Only these are called by the name of a library class. */
    private static void library(String code) {
        Set<String> calls = new TreeSet<>();
        Matcher m = Pattern.compile("\\b(System|Math|Arrays|Integer|Long|List|String)\\.(\\w+)").matcher(code);
        while (m.find()) {
            calls.add(m.group());
        }
        C.isTrue("library calls " + calls, calls.equals(new TreeSet<>(Set.of("Math.floorDiv",
            "System.arraycopy"))));
    }

    /** Objects and arrays are made where a light is made, so no call uses up room. */
    private static void objects(String code) {
        for (String line : code.split("\n")) {
            if (Pattern.compile("\\bnew ").matcher(line).find()) {
                C.isTrue("made with the light: " + line.trim(),
                    line.matches("\\s*private final .*") || line.contains("rows[i] = new State()"));
            }
        }
    }

    /** Methods of at most sixty lines, with at most seven parameters. */
    private static void lengths(String code) {
        Pattern head = Pattern.compile("(\\s+)[\\w\\[\\] ]+\\(([^()]*)\\) \\{");
        int begin = -1;
        String indent = "";
        String[] lines = code.split("\n");
        for (int i = 0; i < lines.length; i++) {
            Matcher m = head.matcher(lines[i]);
            if (m.matches() && !lines[i].matches("\\s*(if|for|while|switch|\\}).*")) {
                begin = i;
                indent = m.group(1);
                C.isTrue("parameters: " + lines[i].trim(), m.group(2).split(",").length <= 7);
            } else if (begin >= 0 && lines[i].equals(indent + "}")) {
                C.isTrue("length: " + lines[begin].trim(), i - begin < 60);
                begin = -1;
            }
        }
    }
}
