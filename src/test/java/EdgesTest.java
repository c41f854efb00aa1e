import java.nio.file.Path;
import java.util.ArrayList;
import java.util.List;
import java.util.Map;
import java.util.Set;

/**
 * The document sentence by sentence: each has a run of calls of its own that shows it, at its boundaries. A call
 * that is refused, or that only asks, is looked at twice more: with it and without it the light is the same.
 */
public final class EdgesTest {
    private static final Check C = new Check("EdgesTest");
    private static final Set<String> QUIET = Set.of("color", "sector", "direction", "again", "code", "shareBits",
        "next", "lamp", "rangeBits", "account", "count", "untilIdle", "sees", "entry", "seen", "compare", "fault");

    public static void main(String[] args) throws Exception {
        Edges edges = Edges.read(Path.of("src/test/edges"));
        Sentences sentences = Sentences.read(Path.of("../shared/DOC.md"));
        for (Edges.Case one : edges.cases) {
            quotes(one, sentences);
            play(one, new Player(new HarborLight()), "");
            play(one, new Player(new Model()), " (of the model)");
            changesNothing(one);
        }
        everySentence(edges, sentences);
        C.end();
    }

    private static void quotes(Edges.Case one, Sentences sentences) {
        for (String quote : one.quotes) {
            C.isTrue(one.where + " quotes the document: " + quote, sentences.hold(one.section, quote));
        }
    }

    private static void play(Edges.Case one, Player player, String whose) {
        for (Call call : one.calls) {
            long answer = player.answer(call);
            String told = one.where + " " + one.quotes + ": " + call + whose;
            if (call.due() == null) {
                C.isTrue(told + " is not refused", answer >= 0);
            } else {
                C.due(told, answer, call.due());
            }
        }
    }

    private static void changesNothing(Edges.Case one) {
        List<Call> before = new ArrayList<>();
        for (Call call : one.calls) {
            boolean isRefused = call.due() != null && call.due() < 0;
            if (!isRefused && !QUIET.contains(call.name())) {
                before.add(call);
            } else if (before.size() < Player.MOST_CALLS - 1) {
                isAsWithout(one.where, before, call);
            }
        }
    }

    /** What a light tells does not depend on whether this call was made. */
    private static void isAsWithout(String where, List<Call> before, Call call) {
        Player with = new Player(new HarborLight());
        Player without = new Player(new HarborLight());
        for (Call earlier : before) {
            with.answer(earlier);
            without.answer(earlier);
        }
        with.answer(call);
        String told = with.lookAtAll();
        // the light without the call can be asked for one thing more
        C.isTrue(where + ": " + call + " changes nothing", without.lookAtAll().startsWith(told));
    }

    /** Each sentence has a quote, that is a part of it, or that it is a part of. */
    private static void everySentence(Edges edges, Sentences sentences) {
        for (Map.Entry<String, List<String>> section : sentences.sections.entrySet()) {
            for (String sentence : section.getValue()) {
                boolean isQuoted = section.getKey().equals("Not promised");
                for (Edges.Case one : edges.cases) {
                    for (String quote : one.quotes) {
                        isQuoted |= one.section.equals(section.getKey())
                            && (quote.contains(sentence) || sentence.contains(quote));
                    }
                }
                C.isTrue(section.getKey() + " has a case: " + sentence, isQuoted);
            }
        }
    }
}
