import java.lang.reflect.InvocationTargetException;
import java.lang.reflect.Method;
import java.lang.reflect.Modifier;
import java.util.ArrayList;
import java.util.HashMap;
import java.util.List;
import java.util.Map;

/** An object that is called by texts such as "thing(1, 203, MAX)", and that can be made again from its calls. */
final class Subject {
    private static final int MOST_CALLS = 512;
    private static final Map<String, Method> METHODS = new HashMap<>();

    static {
        for (Method method : PointsForAll.class.getDeclaredMethods()) {
            if (Modifier.isPublic(method.getModifiers())) {
                METHODS.put(method.getName(), method);
            }
        }
    }

    private final PointsForAll x = new PointsForAll();
    private final List<String> calls = new ArrayList<>();

    Subject(String... made) {
        does(made);
    }

    /** Makes calls whose answers other tests look at. */
    Subject does(String... more) {
        for (String call : more) {
            answerTo(call);
        }
        return this;
    }

    Subject gives(String call, long due) {
        Checks.due(call, answerTo(call), due);
        return this;
    }

    /** The call is answered so, and changes nothing: no later answer tells an object with it from one without. */
    Subject refuses(String call, long due) {
        PointsForAll with = again();
        Checks.due(call, answer(with, call), due);
        List<String> got = Probe.answersOf(with);
        List<String> same = Probe.answersOf(again());
        Checks.so("within " + MOST_CALLS + " calls", calls.size() + 1 + same.size() <= MOST_CALLS);
        for (int i = 0; i < Math.max(got.size(), same.size()); i++) {
            if (i >= got.size() || i >= same.size() || !got.get(i).equals(same.get(i))) {
                Checks.so(call + " changes nothing, but then " + (i < got.size() ? got.get(i) : "nothing") + " in place of "
                    + (i < same.size() ? same.get(i) : "nothing"), false);
                break;
            }
        }
        return this;
    }

    Subject refuses(long due, String... refused) {
        for (String call : refused) {
            refuses(call, due);
        }
        return this;
    }

    /** Feeds a text to THE TAPE, by fours. */
    Subject feeds(String text) {
        for (int i = 0; i < text.length(); i += 4) {
            int n = Math.min(4, text.length() - i);
            int v = 0;
            for (int j = 0; j < n; j++) {
                v |= text.charAt(i + j) << 8 * j;
            }
            answerTo("feed(" + n + ", " + v + ")");
        }
        return this;
    }

    /** A text becomes a WANT. */
    Subject wants(String... texts) {
        for (String text : texts) {
            feeds(text);
            Checks.so("WANT " + text, answerTo("want()") >= 0);
        }
        return this;
    }

    /** A text has its FAULT at this place. */
    Subject fault(String text, int place) {
        long wants = answerTo("count(2)");
        feeds(text);
        Checks.due("want() of " + text, answerTo("want()"), -100 - place);
        return gives("count(3)", 0).gives("count(2)", wants);
    }

    PointsForAll object() {
        return x;
    }

    private PointsForAll again() {
        PointsForAll twin = new PointsForAll();
        for (String call : calls) {
            answer(twin, call);
        }
        return twin;
    }

    private long answerTo(String call) {
        calls.add(call);
        Checks.so("within " + MOST_CALLS + " calls", calls.size() <= MOST_CALLS);
        return answer(x, call);
    }

    static long answer(PointsForAll x, String call) {
        int open = call.indexOf('(');
        Method method = METHODS.get(call.substring(0, open));
        String inside = call.substring(open + 1, call.length() - 1);
        String[] parts = inside.isEmpty() ? new String[0] : inside.split(", ");
        Object[] args = new Object[parts.length];
        for (int i = 0; i < parts.length; i++) {
            long v = number(parts[i]);
            args[i] = method.getParameterTypes()[i] == long.class ? (Object) v : (Object) Math.toIntExact(v);
        }
        try {
            return ((Number) method.invoke(x, args)).longValue();
        } catch (IllegalAccessException | InvocationTargetException e) {
            throw new IllegalStateException(call, e);
        }
    }

    private static long number(String text) {
        switch (text) {
            case "MIN": return Integer.MIN_VALUE;
            case "MAX": return Integer.MAX_VALUE;
            default: return Long.parseLong(text);
        }
    }
}
