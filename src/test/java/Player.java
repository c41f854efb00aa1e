import java.lang.reflect.Method;
import java.util.ArrayList;
import java.util.HashMap;
import java.util.List;
import java.util.Map;

/** Makes calls on a new light, or on a new model, by their names, and no more of them than the document allows. */
final class Player {
    static final int MOST_CALLS = 512;
    private static final List<Call> LOOK = look();
    private final Object light;
    private final Map<String, Method> methods = new HashMap<>();
    private int calls;

    Player(Object light) {
        this.light = light;
        for (Method method : light.getClass().getDeclaredMethods()) {
            methods.put(method.getName(), method);
        }
    }

    long answer(Call call) {
        calls++;
        if (calls > MOST_CALLS) {
            throw new IllegalStateException("more than " + MOST_CALLS + " calls: " + call);
        }
        Object[] arguments = new Object[call.arguments().length];
        for (int i = 0; i < arguments.length; i++) {
            arguments[i] = call.arguments()[i];
        }
        try {
            return ((Number) methods.get(call.name()).invoke(light, arguments)).longValue();
        } catch (ReflectiveOperationException e) {
            throw new IllegalStateException(call + " does not answer: " + e.getCause(), e);
        }
    }

    /** What can be asked of the light, its text, its stored state and its history, as far as calls are left. */
    String lookAtAll() {
        StringBuilder all = new StringBuilder();
        for (Call call : LOOK) {
            if (calls < MOST_CALLS) {
                all.append(answer(call)).append(' ');
            }
        }
        return all.toString();
    }

    private static List<Call> look() {
        String now = "count({0..11});account({0..7});fault({0 1});compare({0..3});code({0..4});shareBits();"
            + "next({0 1});seen({0..3});rangeBits(1);lamp({0..5}, {0..3});color({0..63});entry({0 1 2 39}, {0..3});"
            + "untilIdle()";
        String past = ";undo();count({0..9});account(0);account(7);code(1);rangeBits(1);color({0 31 63})";
        List<Call> all = new ArrayList<>();
        for (String call : (now + past.repeat(5)).split(";")) {
            all.addAll(Call.read(call));
        }
        return all;
    }
}
