import java.lang.reflect.Method;
import java.util.ArrayList;
import java.util.List;

/** Random runs of calls, the same ones each time, answered by the class and by the model. */
final class ModelTest extends Checks {
    private static final int CALLS = 500;
    private static final String[] LIGHT = {"thing", "things", "mend", "mend", "mend", "sort", "purse", "purse", "of", "feed",
        "worth", "basket", "basket", "basket", "tell", "tell", "changed", "black", "beside", "least", "months", "cheap", "undo",
        "undo", "redo", "body", "act", "act", "trace", "keep", "row", "put", "put", "element", "shift", "shift", "taken",
        "count", "led", "judge", "judge", "want"};
    private static final String[] HEAVY = {"wanted", "wanted", "found", "found", "set", "free", "loses", "fewest", "foresight",
        "wrong"};
    private static final int[] EDGES = {-1, 0, 1, Integer.MIN_VALUE, Integer.MAX_VALUE, -2000000000, 60, 61, 99, 100, 120, 999,
        1000};

    private static long seed;

    static void run() throws Exception {
        texts(20000);
        int runs = Integer.getInteger("runs", 60);
        for (int i = 1; i <= runs; i++) {
            test("the model: run " + i);
            seed = i * 7919L + Long.getLong("seed", 0L);
            oneRun(i);
        }
    }

    private static void texts(int many) {
        test("the model: FAULTS of texts");
        seed = 4711;
        for (int i = 0; i < many; i++) {
            String text = maybeSpoilt(text(3));
            if (text.length() > 120) {
                continue;
            }
            int fault = Model.fault(text);
            due("want of " + text, wantText(new PointsForAll(), text), fault < 0 ? 0 : -100 - fault);
        }
    }

    private static void oneRun(int number) throws Exception {
        PointsForAll x = new PointsForAll();
        Model model = new Model();
        List<String> told = new ArrayList<>();
        begin(x, model, number, told);
        int calls = told.size();
        while (calls < CALLS) {
            calls += step(x, model, told);
            if (!same(x, model)) {
                System.out.println(String.join("\n", told));
                return;
            }
        }
    }

    private static boolean same(PointsForAll x, Model model) {
        boolean same = true;
        for (int what = 0; what < 7; what++) {
            same &= x.count(what) == model.count(what);
        }
        so("counts and answers are the same", same && last);
        return same && last;
    }

    private static boolean last = true;

    private static void begin(PointsForAll x, Model model, int number, List<String> told) throws Exception {
        last = true;
        for (int i = 0; i < 4; i++) {
            feedBoth(x, model, text(2), told);
            both(x, model, "want", told);
        }
        for (int i = 0; i < number % 7; i++) {
            both(x, model, "thing", told, one(8) == 0 ? upTo(1000) : upTo(300), upTo(15) * 100 + upTo(20), upTo(20));
        }
        for (int i = 0; i < number % 6; i++) {
            both(x, model, "sort", told, 1 + upTo(30), upTo(60) * 100 + upTo(60), upTo(4) * 10 + upTo(4));
        }
    }

    private static int step(PointsForAll x, Model model, List<String> told) throws Exception {
        boolean heavy = one(12) == 0;
        String name = heavy ? HEAVY[upTo(HEAVY.length)] : LIGHT[upTo(LIGHT.length)];
        if (name.equals("feed") && one(2) == 0) {
            feedBoth(x, model, maybeSpoilt(text(1)), told);
            return 10;
        }
        long[] args = args(name);
        if (one(40) == 0 && args.length > 0) {
            args[upTo(args.length)] = EDGES[upTo(EDGES.length)];
        }
        both(x, model, name, told, args);
        return 1;
    }

    private static void feedBoth(PointsForAll x, Model model, String text, List<String> told) throws Exception {
        for (int i = 0; i < text.length(); i += 4) {
            long four = 0;
            int n = Math.min(4, text.length() - i);
            for (int j = 0; j < n; j++) {
                four |= (long) text.charAt(i + j) << 8 * j;
            }
            both(x, model, "feed", told, n, (int) four);
        }
    }

    private static void both(PointsForAll x, Model model, String name, List<String> told, long... args) throws Exception {
        StringBuilder call = new StringBuilder(name).append('(');
        for (int i = 0; i < args.length; i++) {
            call.append(i == 0 ? "" : ", ").append(args[i]);
        }
        call.append(')');
        long want = answer(model, name, args);
        long got = answer(x, name, args);
        told.add(call + " " + want);
        due(call.toString(), got, want);
        last = last && got == want;
    }

    private static long answer(Object one, String name, long[] args) throws Exception {
        for (Method method : one.getClass().getDeclaredMethods()) {
            if (method.getName().equals(name) && java.lang.reflect.Modifier.isPublic(method.getModifiers())) {
                Object[] given = new Object[args.length];
                Class<?>[] types = method.getParameterTypes();
                for (int i = 0; i < args.length; i++) {
                    given[i] = types[i] == long.class ? (Object) args[i] : (Object) (int) args[i];
                }
                method.setAccessible(true);
                return ((Number) method.invoke(one, given)).longValue();
            }
        }
        throw new IllegalStateException(name);
    }

    private static long[] args(String name) {
        int thing = upTo(7);
        int sort = upTo(6);
        switch (name) {
            case "thing": return of(upTo(200), upTo(2000), upTo(30));
            case "things": return of(upTo(6), upTo(20) - 2, 1 + upTo(6));
            case "mend": return of(thing, upTo(3), upTo(one(3) == 0 ? 100 : 15));
            case "sort": return of(1 + upTo(40), upTo(5000), upTo(4) * 10 + upTo(4));
            case "purse": return of(sort, upTo(2), upTo(100));
            case "of": return of(thing, upTo(16));
            case "feed": return of(1 + upTo(4), one(2) == 0 ? 0x31313131 : 0x6B2B3274);
            case "worth": return of(sort, thing * 10 + upTo(5));
            case "basket": return of(sort, upTo(4));
            case "wanted": return of(upTo(8) - 1, upTo(2));
            case "led": return of(thing, sort);
            case "found": return of(1 + upTo(60), upTo(10) - 4);
            case "set": return of(1 + upTo(60));
            case "tell": return of(sort, digits());
            case "changed": return of(sort, 1 + upTo(one(2) == 0 ? 5 : 99), upTo(2));
            case "black": return of(sort, (1 + upTo(6)) * 100 + upTo(20), upTo(101));
            case "beside": return of(sort, one(3) == 0 ? 0 : 100 + upTo(801));
            case "loses": return of(one(2) == 0 ? 0 : 100 + upTo(801));
            case "least": return of(thing);
            case "months": return of(sort, 1 + upTo(12), upTo(100), upTo(2));
            case "foresight": return of(sort);
            case "cheap": return of(upTo(20));
            case "wrong": return of(upTo(3));
            case "body": return of(upTo(8));
            case "act": return of(upTo(12), upTo(4), upTo(1000) - 500);
            case "trace": return of(upTo(14));
            case "keep": return of(upTo(6), upTo(10) - 1);
            case "row": return of(upTo(6), one(2) == 0 ? 1 : upTo(5), upTo(61));
            case "put": return of(upTo(6), upTo(24), one(4) == 0 ? next(62) << 2 : upTo(99));
            case "element": return of(upTo(6), upTo(24));
            case "shift": return of(upTo(6), upTo(8), upTo(6), upTo(8), upTo(12));
            case "taken": return of(upTo(6), upTo(8));
            case "count": return of(upTo(8) - 1);
            default: return of();
        }
    }

    private static long[] of(long... args) {
        return args;
    }

    private static int digits() {
        int digits = 0;
        for (int i = upTo(7); i > 0; i--) {
            digits = digits * 10 + upTo(one(20) == 0 ? 5 : one(2) == 0 ? 2 : 4);
        }
        return digits;
    }

    private static String text(int lines) {
        StringBuilder text = new StringBuilder();
        for (int line = upTo(lines); line >= 0; line--) {
            if (line > 0 || one(3) == 0) {
                text.append(one(2) == 0 ? part(1) : "t=" + upTo(6)).append('?');
            }
            text.append(one(3) > 0 ? upTo(120) + "-k*" + upTo(30) + "+" + part(2) : part(2)).append(line > 0 ? ";" : "");
        }
        return text.length() > 120 ? text(1) : text.toString();
    }

    private static String part(int depth) {
        switch (upTo(depth > 0 ? 7 : 4)) {
            case 0: return Integer.toString(upTo(one(3) == 0 ? 10000 : 12));
            case 1: case 2: case 3: return String.valueOf("tkcpsbn".charAt(upTo(7)));
            case 4: return (one(2) == 0 ? "!" : "-") + part(depth - 1);
            case 5: return "(" + part(depth - 1) + "|&<=>+-*/%".charAt(upTo(10)) + part(depth - 1) + ")";
            default: return part(depth - 1) + "|&<=>+-*/%+-*".charAt(upTo(13)) + part(depth - 1);
        }
    }

    private static String maybeSpoilt(String text) {
        StringBuilder spoilt = new StringBuilder(text);
        for (int i = upTo(4); i > 1; i--) {
            char sign = "tkcpsbn0123456789|&<=>+-*/%!()?;x (((---!!!".charAt(upTo(43));
            int place = upTo(spoilt.length() + 1);
            if (one(2) == 0 && place < spoilt.length()) {
                spoilt.deleteCharAt(place);
            } else {
                spoilt.insert(place, sign);
            }
        }
        return spoilt.toString();
    }

    private static int one(int of) {
        return upTo(of);
    }

    private static int upTo(int n) {
        return (int) (next(31) % n);
    }

    private static long next(int bits) {
        seed = seed * 6364136223846793005L + 1442695040888963407L;
        return seed >>> 64 - bits;
    }
}
