import java.io.IOException;
import java.lang.reflect.Constructor;
import java.lang.reflect.Field;
import java.lang.reflect.InvocationTargetException;
import java.lang.reflect.Method;
import java.lang.reflect.Modifier;
import java.nio.file.Files;
import java.nio.file.Path;
import java.util.Arrays;
import java.util.List;
import java.util.Set;
import java.util.TreeSet;
import java.util.regex.Matcher;
import java.util.regex.Pattern;

/**
 * What holds for the class as a whole: its face is that of the document and no more, its source keeps to the language,
 * no call throws whatever it is given, objects are apart, and the example of README.md answers what is said there.
 */
public final class NounChoiceFace {
    private static final Path SOURCE = Path.of("src", "main", "java", "NounChoice.java");

    /** The public face of the document, but for the constructor and the constants. */
    private static final List<String> METHODS = List.of(
        "thing()", "word(int, int, boolean, boolean)", "kind(int, int)", "place(int, int)", "mark(int, int, int)",
        "plural(int, int)", "weight(int, int)", "limit(int)", "score(int)", "alike(int, int)", "type(int)", "wipe()",
        "fits(int)", "choose()", "reply()", "chosen(int)", "asked(int, int)", "told(int)", "count(int)");

    private static final List<String> CONSTANTS = List.of("BAD = -1", "FULL = -3", "NONE = -2", "TURN = -4");

    /** What LANGUAGE.md rules out and a search of the source can find. */
    private static final List<String> RULED_OUT = List.of(
        "\\b(throw|throws|try|catch|synchronized|assert|volatile|transient|native|package|protected)\\b", "->", "::",
        "\\bstatic\\s*\\{", "Exact\\b", "\\bSystem\\.(?!arraycopy\\b)", "\\b(Thread|Random|Object|Runtime|Class|hashCode)\\b",
        "\\bwhile\\s*\\(\\s*true\\b", "\\bfor\\s*\\(\\s*;\\s*;");

    private static final int[] ARGUMENTS = {
        Integer.MIN_VALUE, Integer.MIN_VALUE + 1, -1000, -10, -9, -2, -1, 0, 1, 2, 3, 4, 9, 10, 15, 16, 29, 30, 31, 32, 33,
        37, 38, 40, 41, 60, 61, 1000, Integer.MAX_VALUE - 1, Integer.MAX_VALUE};

    private static int wrong = 0;

    public static void main(String[] args) throws IOException, IllegalAccessException {
        faceIsThatOfTheDocument();
        constantsAreThoseOfTheDocument();
        nothingElseIsSeen();
        noStaticState();
        sourceKeepsToTheLanguage();
        noCallThrows();
        callsMakeNoObjects();
        objectsAreApart();
        exampleOfReadme();
        System.out.println(wrong == 0 ? "the class as a whole is as due" : wrong + " things are not as due");
        if (wrong != 0) {
            System.exit(1);
        }
    }

    private static void due(String what, Object got, Object want) {
        if (!want.equals(got)) {
            wrong++;
            System.out.println(what + ": " + got + ", due is " + want);
        }
    }

    private static String signature(Method method) {
        StringBuilder text = new StringBuilder(method.getName()).append("(");
        for (Class<?> type : method.getParameterTypes()) {
            text.append(text.charAt(text.length() - 1) == '(' ? "" : ", ").append(type.getName());
        }
        return text.append(")").toString();
    }

    // ---- the face

    private static void faceIsThatOfTheDocument() {
        Set<String> found = new TreeSet<>();
        for (Method method : NounChoice.class.getDeclaredMethods()) {
            if (Modifier.isPublic(method.getModifiers())) {
                found.add(signature(method));
                due(signature(method) + " answers", method.getReturnType().getName(), "int");
                due(signature(method) + " is static", Modifier.isStatic(method.getModifiers()), false);
                due(signature(method) + " throws", method.getExceptionTypes().length, 0);
            }
        }
        due("public methods", found, new TreeSet<>(METHODS));
        due("public class", Modifier.isPublic(NounChoice.class.getModifiers()), true);
        due("final class", Modifier.isFinal(NounChoice.class.getModifiers()), true);
        Constructor<?>[] constructors = NounChoice.class.getDeclaredConstructors();
        due("constructors", constructors.length, 1);
        due("its parameters", constructors[0].getParameterCount(), 0);
        due("public constructor", Modifier.isPublic(constructors[0].getModifiers()), true);
    }

    private static void constantsAreThoseOfTheDocument() throws IllegalAccessException {
        Set<String> found = new TreeSet<>();
        for (Field field : NounChoice.class.getFields()) {
            found.add(field.getName() + " = " + field.get(null));
            due(field.getName(), Modifier.toString(field.getModifiers()) + " " + field.getType(), "public static final int");
        }
        due("constants", found, new TreeSet<>(CONSTANTS));
    }

    private static void nothingElseIsSeen() {
        Set<String> names = new TreeSet<>();
        for (String method : METHODS) {
            names.add(method.substring(0, method.indexOf('(')));
        }
        for (Method method : NounChoice.class.getDeclaredMethods()) {
            if (!Modifier.isPublic(method.getModifiers()) && !method.isSynthetic()) {
                due(signature(method) + " is private", Modifier.isPrivate(method.getModifiers()), true);
                due(signature(method) + " bears the name of a public one", names.contains(method.getName()), false);
            }
        }
        for (Field field : NounChoice.class.getDeclaredFields()) {
            if (!Modifier.isPublic(field.getModifiers()) && !field.isSynthetic()) {
                due(field.getName() + " is private", Modifier.isPrivate(field.getModifiers()), true);
            }
        }
        for (Class<?> inside : NounChoice.class.getDeclaredClasses()) {
            due(inside.getName() + " is static", Modifier.isStatic(inside.getModifiers()), true);
            due(inside.getName() + " is public", Modifier.isPublic(inside.getModifiers()), false);
        }
    }

    private static void noStaticState() {
        fieldsAreConstants(NounChoice.class);
        for (Class<?> inside : NounChoice.class.getDeclaredClasses()) {
            fieldsAreConstants(inside);
        }
    }

    private static void fieldsAreConstants(Class<?> owner) {
        int own = 0;
        for (Field field : owner.getDeclaredFields()) {
            if (Modifier.isStatic(field.getModifiers())) {
                due(field + " is final", Modifier.isFinal(field.getModifiers()), true);
                due(field + " is a number", field.getType() == int.class, true);
            } else {
                own++;
            }
        }
        due(owner.getName() + " has some twenty fields at most", own <= 20, true);
    }

    // ---- the source

    private static String codeWithoutComments() throws IOException {
        return Files.readString(SOURCE).replaceAll("(?s)/\\*.*?\\*/", "").replaceAll("//[^\n]*", "");
    }

    private static void sourceKeepsToTheLanguage() throws IOException {
        String code = codeWithoutComments();
        for (String words : RULED_OUT) {
            Matcher found = Pattern.compile(words).matcher(code);
            due("ruled out: " + words, found.find() ? found.group() : "", "");
        }
        Matcher imports = Pattern.compile("(?m)^import ([^;]*);").matcher(code);
        while (imports.find()) {
            due("import", imports.group(1), "java.util.Arrays");
        }
        for (int i = 0; i < code.length(); i++) {
            if (code.charAt(i) > 126) {
                due("a character of the source", code.charAt(i), "one of 0 .. 126");
            }
        }
    }

    // ---- any call with any arguments

    private static void noCallThrows() throws IllegalAccessException {
        for (Method method : NounChoice.class.getDeclaredMethods()) {
            if (Modifier.isPublic(method.getModifiers())) {
                for (int state = 0; state < 6; state++) {
                    callWithAll(method, state);
                }
            }
        }
    }

    private static void callWithAll(Method method, int state) throws IllegalAccessException {
        Class<?>[] types = method.getParameterTypes();
        int ways = 1;
        for (Class<?> type : types) {
            ways *= type == boolean.class ? 2 : ARGUMENTS.length;
        }
        NounChoice x = inState(state);
        for (int way = 0; way < ways; way++) {
            // An object may be used for 512 calls alone, and a state takes some 100 of them.
            if (way % 400 == 399) {
                x = inState(state);
            }
            call(method, x, argumentsOf(types, way));
        }
    }

    private static Object[] argumentsOf(Class<?>[] types, int way) {
        Object[] arguments = new Object[types.length];
        int rest = way;
        for (int p = 0; p < types.length; p++) {
            int choices = types[p] == boolean.class ? 2 : ARGUMENTS.length;
            int pick = rest % choices;
            arguments[p] = types[p] == boolean.class ? (Object) (pick == 1) : (Object) ARGUMENTS[pick];
            rest /= choices;
        }
        return arguments;
    }

    private static void call(Method method, NounChoice x, Object[] arguments) throws IllegalAccessException {
        try {
            method.invoke(x, arguments);
        } catch (InvocationTargetException thrown) {
            due(method.getName() + Arrays.toString(arguments), thrown.getCause(), "no throw");
        }
    }

    /** 0 new, 1 no words, 2 all full, 3 asked, 4 asked with a full row, 5 chosen. */
    private static NounChoice inState(int state) {
        NounChoice x = new NounChoice();
        for (int t = 0; state > 0 && t < 32; t++) {
            x.thing();
            if (state > 1) {
                x.word(t, 0, true, true);
            }
        }
        if (state >= 3) {
            x.type(state == 5 ? 34 : 0);
            x.choose();
        }
        for (int i = 0; (state == 2 || state == 4) && i < 30; i++) {
            x.type(i % 2 == 0 ? 0 : 36);
        }
        return x;
    }

    // ---- the room

    /** What calls make would add up in the one room of a run; all is made with the object. */
    private static void callsMakeNoObjects() throws IOException {
        Matcher made = Pattern.compile("(?m)^.*\\bnew\\b.*$").matcher(codeWithoutComments());
        while (made.find()) {
            String line = made.group().trim();
            due("made with the object: " + line, line.startsWith("private "), true);
        }
    }

    // ---- objects apart

    private static void objectsAreApart() {
        NounChoice x = new NounChoice();
        NounChoice y = new NounChoice();
        x.thing();
        x.thing();
        x.word(0, 0, true, true);
        x.word(1, 0, true, true);
        x.kind(0, 3);
        x.plural(3, 8);
        x.weight(0, 5);
        x.limit(7);
        x.type(0);
        due("x is asked", x.choose(), 0);
        x.type(34);
        due("things of y", y.count(0), 0);
        due("row of y", y.count(3), 0);
        due("phrase of y", y.count(4), 0);
        due("limit of y", y.count(5), 32);
        due("weight of y", y.weight(0, 1), 1);
        due("plural of y", y.plural(3, -1), 0);
        due("asked of y", y.asked(-1, 0), 0);
        due("told of y", y.told(0), -1);
        due("reply of y", y.reply(), NounChoice.TURN);
        due("thing of y", y.thing(), 0);
        due("word of y", y.word(0, 0, true, false), 0);
        y.type(34);
        due("y chooses", y.choose(), 1);
        due("chosen of x", x.chosen(-1), 0);
        due("row of x", x.count(3), 1);
        due("plural of x", x.plural(3, 8), 9);
        due("asked of x", x.asked(-1, 0), 2);
    }

    // ---- README.md

    /** The rows of the example with their answers, as README.md has them; a row that differs is told. */
    private static void exampleOfReadme() throws IOException {
        List<String> readme = Files.readAllLines(Path.of("README.md"));
        NounChoice x = new NounChoice();
        int red = x.thing();
        int blue = x.thing();
        int[] got = {
            x.word(red, 0, true, true), x.word(blue, 0, true, true), x.word(red, 5, false, true), x.word(blue, 6, false, true),
            x.type(30), x.type(0), x.choose(), x.asked(-1, 0), x.asked(1, 0), x.type(5), x.reply(), x.chosen(0),
            x.type(44), x.type(0), x.choose(), x.told(0), x.told(2)};
        String[] rows = {
            "x.word(red, 0, true, true);", "x.word(blue, 0, true, true);", "x.word(red, 5, false, true);",
            "x.word(blue, 6, false, true);", "x.type(30);", "x.type(0);", "x.choose();", "x.asked(-1, 0);", "x.asked(1, 0);",
            "x.type(5);", "x.reply();", "x.chosen(0);", "x.type(44);", "x.type(0);", "x.choose();", "x.told(0);", "x.told(2);"};
        int at = 0;
        for (int i = 0; i < rows.length; i++) {
            Pattern row = Pattern.compile(Pattern.quote(rows[i]) + " *// " + got[i] + "\\b.*");
            while (at < readme.size() && !readme.get(at).startsWith(rows[i])) {
                at++;
            }
            due("README.md, " + rows[i], at < readme.size() && row.matcher(readme.get(at)).matches() ? got[i] : "not told", got[i]);
            at++;
        }
    }
}
