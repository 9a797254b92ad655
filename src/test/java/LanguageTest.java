import java.lang.reflect.Constructor;
import java.lang.reflect.Field;
import java.lang.reflect.Method;
import java.lang.reflect.Modifier;
import java.nio.file.Files;
import java.nio.file.Path;
import java.util.Arrays;
import java.util.List;
import java.util.Set;
import java.util.TreeSet;
import java.util.regex.Matcher;
import java.util.regex.Pattern;

/** The face, and those rules of LANGUAGE.md that can be seen without running anything. */
final class LanguageTest extends Checks {
    private static final String FACE = "act(int,int,int)int basket(int,int)int beside(int,int)int "
        + "black(int,int,int)int body(int)int changed(int,int,int)int cheap(int)int count(int)int element(int,int)long "
        + "feed(int,int)int fewest()int foresight(int)int found(int,int)int free()int judge()int keep(int,int)int "
        + "least(int)int led(int,int)int loses(int)int mend(int,int,int)int months(int,int,int,int)int of(int,int)int "
        + "purse(int,int,int)int put(int,int,long)int redo()int row(int,int,int)int set(int)int "
        + "shift(int,int,int,int,int)int sort(int,int,int)int taken(int,int)int tell(int,int)int thing(int,int,int)int "
        + "things(int,int,int)int trace(int)int undo()int want()int wanted(int,int)int worth(int,int)int wrong(int)int";

    static void run(String source) throws Exception {
        face();
        insides();
        words(Files.readString(Path.of(source)));
    }

    private static void face() {
        test("the face: constants, constructor, methods, and nothing else");
        Set<String> methods = new TreeSet<>();
        Set<String> names = new TreeSet<>();
        for (Method method : PointsForAll.class.getDeclaredMethods()) {
            if (Modifier.isPublic(method.getModifiers())) {
                methods.add(told(method));
                names.add(method.getName());
            } else {
                so(method + " is private", Modifier.isPrivate(method.getModifiers()));
            }
        }
        so("the public methods " + methods, methods.equals(new TreeSet<>(List.of(FACE.split(" ")))));
        for (Method method : PointsForAll.class.getDeclaredMethods()) {
            so(method + " has a name of its own", Modifier.isPublic(method.getModifiers()) || !names.contains(method.getName()));
        }
        Constructor<?>[] makers = PointsForAll.class.getDeclaredConstructors();
        so("one public constructor", makers.length == 1 && Modifier.isPublic(makers[0].getModifiers())
            && makers[0].getParameterCount() == 0);
        constants();
    }

    private static String told(Method method) {
        StringBuilder told = new StringBuilder(method.getName()).append('(');
        for (Class<?> type : method.getParameterTypes()) {
            told.append(told.charAt(told.length() - 1) == '(' ? "" : ",").append(type);
        }
        return told.append(')').append(method.getReturnType()).toString();
    }

    private static void constants() {
        due("BAD", PointsForAll.BAD, -1);
        due("NOT", PointsForAll.NOT, -2);
        due("FULL", PointsForAll.FULL, -3);
        due("BIG", PointsForAll.BIG, -4);
        due("STATE", PointsForAll.STATE, -5);
        due("VOID", PointsForAll.VOID, -2000000000);
        int open = 0;
        for (Field field : PointsForAll.class.getDeclaredFields()) {
            boolean isPublic = Modifier.isPublic(field.getModifiers());
            open += isPublic ? 1 : 0;
            so(field + " is private", isPublic || Modifier.isPrivate(field.getModifiers()));
        }
        due("public fields", open, 6);
    }

    private static void insides() {
        test("LANGUAGE 1, 2, 5, 11: the classes inside");
        Class<?>[] all = PointsForAll.class.getDeclaredClasses();
        so("some twelve classes", all.length < 12);
        Class<?>[] withFace = Arrays.copyOf(all, all.length + 1);
        withFace[all.length] = PointsForAll.class;
        for (Class<?> one : withFace) {
            int kept = 0;
            for (Field field : one.getDeclaredFields()) {
                boolean isStatic = Modifier.isStatic(field.getModifiers());
                kept += isStatic ? 0 : 1;
                so(field + " static means final", !isStatic || Modifier.isFinal(field.getModifiers()));
            }
            so(one + " has some twenty fields", kept <= 20);
            so(one + " is static", one == PointsForAll.class || Modifier.isStatic(one.getModifiers()));
            for (Method method : one.getDeclaredMethods()) {
                so(method + " takes at most seven", method.getParameterCount() <= 7);
                so(method + " has no name of the face", one == PointsForAll.class || !(" " + FACE).contains(" " + method.getName() + "("));
            }
        }
    }

    private static void words(String source) {
        test("LANGUAGE 3, 4, 6: no word that is ruled out");
        String code = source.replaceAll("(?s)/\\*.*?\\*/", " ").replaceAll("//[^\n]*", " ");
        String[] out = {"throw", "throws", "try", "catch", "synchronized", "assert", "import", "package", "var", "instanceof",
            "Object", "equals", "hashCode", "toString", "protected", "lambda", "System\\.(?!arraycopy)\\w+", "->", "::",
            "\\w+Exact\\b"};
        for (String word : out) {
            Matcher found = Pattern.compile(Character.isLetter(word.charAt(0)) ? "\\b" + word + "\\b" : word).matcher(code);
            so("no " + word, !found.find());
        }
        for (int i = 0; i < source.length(); i++) {
            if (source.charAt(i) > 126) {
                so("plain signs alone, at " + i, false);
            }
        }
        shortMethods(source.split("\n"));
    }

    private static void shortMethods(String[] lines) {
        test("LANGUAGE 11: methods stay short");
        for (int i = 0; i < lines.length; i++) {
            Matcher head = Pattern.compile("( {4}| {8})[^ /*}].*\\) \\{").matcher(lines[i]);
            if (!head.matches()) {
                continue;
            }
            int end = i;
            while (end < lines.length && !lines[end].equals(head.group(1) + "}")) {
                end++;
            }
            so("line " + (i + 1) + " begins a short method", end - i < 60);
        }
    }
}
