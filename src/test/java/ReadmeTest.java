import java.nio.file.Files;
import java.nio.file.Path;
import java.util.Map;
import java.util.TreeMap;
import java.util.TreeSet;
import java.util.regex.Matcher;
import java.util.regex.Pattern;

/** The README's calls and refusals are the document's, and its example and its items of texts do what it says. */
public final class ReadmeTest {
    private static final Check C = new Check("ReadmeTest");
    private static final Map<String, String> ERRORS = Map.of("INVALID_ARGUMENT", "-1", "NOT_POSSIBLE", "-2",
        "LIMIT_REACHED", "-3", "NOT_FOUND", "-4");

    public static void main(String[] args) throws Exception {
        String readme = Files.readString(Path.of("README.md"));
        String doc = Files.readString(Path.of("../shared/DOC.md"));
        Map<String, String> told = toldCalls(readme);
        Map<String, String> due = dueCalls(doc);
        C.due("calls in the document", due.size(), 31);
        C.isTrue("the calls " + told.keySet() + ", due are " + due.keySet(), told.keySet().equals(due.keySet()));
        for (Map.Entry<String, String> call : due.entrySet()) {
            String errors = told.get(call.getKey());
            C.isTrue(call + " is refused with " + errors, call.getValue().equals(errors));
        }
        constants(readme);
        example(readme);
        items(readme);
        C.end();
    }

    /** Each call of the table, and the errors in its row. */
    private static Map<String, String> toldCalls(String readme) {
        Map<String, String> calls = new TreeMap<>();
        Matcher m = Pattern.compile("(?m)^\\| `(\\w+\\([\\w, ]*\\))` \\| [^|]* \\| ([^|]*)\\|$").matcher(readme);
        while (m.find()) {
            calls.put(m.group(1), m.group(2).trim());
        }
        return calls;
    }

    /** Each promised method, and the errors that stand behind "Returns". */
    private static Map<String, String> dueCalls(String doc) {
        Map<String, String> calls = new TreeMap<>();
        for (String promise : doc.split("(?m)^## Promise ")) {
            Matcher m = Pattern.compile("`(?:int|long) (\\w+)\\((.*)\\)`").matcher(promise);
            if (m.find()) {
                String returns = promise.substring(promise.lastIndexOf("Returns "));
                boolean isAsDirection = returns.startsWith("Returns as direction()");
                String call = m.group(1) + "(" + m.group(2).replace("int ", "") + ")";
                calls.put(call, isAsDirection ? "-1 -4" : errorsOf(returns));
            }
        }
        return calls;
    }

    private static String errorsOf(String returns) {
        TreeSet<String> errors = new TreeSet<>();
        for (Map.Entry<String, String> error : ERRORS.entrySet()) {
            if (returns.contains(error.getKey())) {
                errors.add(error.getValue());
            }
        }
        return String.join(" ", errors);
    }

    private static void constants(String readme) {
        for (Map.Entry<String, String> error : ERRORS.entrySet()) {
            String row = "| " + error.getValue() + " | `" + error.getKey() + "` |";
            C.isTrue("a row " + row, readme.contains(row));
        }
    }

    private static void example(String readme) {
        int begin = readme.indexOf("```java\n") + 8;
        Pattern call = Pattern.compile("light\\.(\\w+\\([^)]*\\)); +// (-?\\d+): .*");
        Pattern typing = Pattern.compile("for \\(char sign : \"(.*)\"\\.toCharArray\\(\\)\\) light\\.type\\(sign\\);");
        Player light = new Player(new HarborLight());
        for (String line : readme.substring(begin, readme.indexOf("```", begin)).split("\n")) {
            Matcher m = call.matcher(line);
            Matcher t = typing.matcher(line);
            if (m.matches()) {
                play(light, m.group(1) + " = " + m.group(2));
            } else if (t.matches()) {
                Call.write(t.group(1)).forEach(light::answer);
            } else {
                C.isTrue("a line of the example: " + line, line.equals("HarborLight light = new HarborLight();"));
            }
        }
    }

    private static void play(Player light, String text) {
        Call call = Call.read(text).get(0);
        C.due("the example's " + call, light.answer(call), call.due());
    }

    /** The items of the table make one text without a fault, and so does each with another word of its brackets. */
    private static void items(String readme) {
        StringBuilder text = new StringBuilder();
        Matcher m = Pattern.compile("(?m)^\\| `([a-z]+ .*;)`(?: \\((.*)\\))? \\| `").matcher(readme);
        int items = 0;
        while (m.find()) {
            items++;
            text.append(m.group(1));
            Matcher word = Pattern.compile("`(\\w+)`").matcher(m.group(2) == null ? "" : m.group(2));
            while (word.find()) {
                isGood(m.group(1).replaceFirst(" \\w+", " " + word.group(1)));
            }
        }
        C.due("kinds of items", items, 6);
        C.due("items of " + text, Check.withText(text.toString()).load(), items);
    }

    private static void isGood(String item) {
        C.due("an item " + item, Check.withText(item).load(), 1);
    }
}
