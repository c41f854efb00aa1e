import java.util.ArrayList;
import java.util.Arrays;
import java.util.List;
import java.util.regex.Matcher;
import java.util.regex.Pattern;

/** One call of a case: what it calls, with what, and the answer that is due (null if any but an error). */
record Call(String name, int[] arguments, Long due) {
    private static final Pattern FORM = Pattern.compile("(?:(\\d+) times )?(\\w+)\\(([^()]*)\\)(?: = (.+))?");

    /** The calls that a text stands for: "3 times advance(1)", "color({0..63}) = 1", "lamp({-1 6}, 0) = -1". */
    static List<Call> read(String text) {
        Matcher m = FORM.matcher(text.trim());
        if (!m.matches()) {
            throw new IllegalArgumentException("no call: " + text);
        }
        int times = m.group(1) == null ? 1 : Integer.parseInt(m.group(1));
        Long due = m.group(4) == null ? null : readAnswer(m.group(4));
        List<Call> all = new ArrayList<>();
        for (int i = 0; i < times; i++) {
            for (int[] arguments : readArguments(m.group(3).trim())) {
                all.add(new Call(m.group(2), arguments, due));
            }
        }
        return all;
    }

    /** The calls that write a text into an empty one. */
    static List<Call> write(String text) {
        List<Call> all = new ArrayList<>();
        for (int i = 0; i < text.length(); i++) {
            all.add(new Call("type", new int[] {text.charAt(i)}, i + 1L));
        }
        return all;
    }

    private static List<int[]> readArguments(String text) {
        List<int[]> rows = List.of(new int[0]);
        if (text.isEmpty()) {
            return rows;
        }
        for (String part : text.split(",")) {
            List<int[]> longer = new ArrayList<>();
            for (int[] row : rows) {
                for (int value : readValues(part.trim())) {
                    int[] next = Arrays.copyOf(row, row.length + 1);
                    next[row.length] = value;
                    longer.add(next);
                }
            }
            rows = longer;
        }
        return rows;
    }

    private static List<Integer> readValues(String part) {
        List<Integer> values = new ArrayList<>();
        for (String word : part.replaceAll("[{}]", "").split(" ")) {
            String[] ends = word.split("\\.\\.");
            int last = readValue(ends[ends.length - 1]);
            for (int value = readValue(ends[0]); value < last; value++) {
                values.add(value);
            }
            values.add(last);
        }
        return values;
    }

    private static int readValue(String word) {
        switch (word) {
            case "MIN": return Integer.MIN_VALUE;
            case "MAX": return Integer.MAX_VALUE;
            default: return Integer.parseInt(word);
        }
    }

    /** A whole number, "float 7.7" or "double 3/65" for the bits of such a number. */
    private static long readAnswer(String text) {
        if (text.startsWith("float ")) {
            return Float.floatToIntBits(Float.parseFloat(text.substring(6)));
        }
        if (text.startsWith("double ")) {
            String[] parts = text.substring(7).split("/");
            return Double.doubleToLongBits(Double.parseDouble(parts[0]) / Double.parseDouble(parts[1]));
        }
        return Long.parseLong(text);
    }

    @Override
    public String toString() {
        StringBuilder text = new StringBuilder(name).append('(');
        for (int i = 0; i < arguments.length; i++) {
            text.append(i == 0 ? "" : ", ").append(arguments[i]);
        }
        return text.append(')').toString();
    }
}
