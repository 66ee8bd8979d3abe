import java.lang.reflect.Constructor;
import java.lang.reflect.Field;
import java.lang.reflect.Method;
import java.lang.reflect.Modifier;
import java.nio.charset.StandardCharsets;
import java.nio.file.Files;
import java.nio.file.Path;
import java.util.Set;
import java.util.TreeSet;
import java.util.regex.Pattern;

/** The public face of the document, and the rules of LANGUAGE.md that can be looked up. */
public final class FaceTest {
    private static final Checks CHECKS = new Checks();
    private static final Path SOURCE = Path.of("src", "main", "java", "CandleCourt.java");
    private static final Set<String> FACE = Set.of("int set(int,int)", "int say(int)", "int wipe()", "int fault(int)",
        "int suits()", "int lay()", "int suit(int,int)", "int day(int)", "int over(int,int)", "int won(int)",
        "int order(int,int)", "int wax(int)", "int finger(int)", "int drawnOut(int)", "int stall(int,int,int)",
        "long likely(int,int,int,int)", "long mean(int,int,int,int)", "int term(int)", "int seen(int,int)",
        "int forget()", "int fits()", "int year(int,int,int)", "int image(int)", "int restore(int)", "int told(int)");
    private static final Set<String> CONSTANTS = Set.of("UNKNOWN", "OUTSIDE", "STATE", "FULL", "NO", "NONE", "GONE");

    private static final int MOST_CLASSES = 12;
    private static final int MOST_PARAMETERS = 7;
    private static final int MOST_LINES = 60;

    public static void main(String[] args) throws Exception {
        methods();
        fieldsAndConstructors();
        values();
        classesInside();
        rules(Files.readString(SOURCE, StandardCharsets.US_ASCII));
        CHECKS.end("FaceTest");
    }

    private static void methods() {
        Set<String> found = new TreeSet<>();
        Set<String> names = new TreeSet<>();
        for (Method method : CandleCourt.class.getDeclaredMethods()) {
            if (!Modifier.isPrivate(method.getModifiers())) {
                found.add(signature(method));
                names.add(method.getName());
                CHECKS.holds(method + " is public", Modifier.isPublic(method.getModifiers()));
            }
        }
        CHECKS.holds("the face is " + FACE + ", not " + found, found.equals(FACE));
        for (Method method : CandleCourt.class.getDeclaredMethods()) {
            if (Modifier.isPrivate(method.getModifiers())) {
                CHECKS.holds(method + " bears a name of its own", !names.contains(method.getName()));
            }
        }
    }

    private static String signature(Method method) {
        StringBuilder text = new StringBuilder(method.getReturnType().getName() + " " + method.getName() + "(");
        for (Class<?> type : method.getParameterTypes()) {
            text.append(text.charAt(text.length() - 1) == '(' ? "" : ",").append(type.getName());
        }
        return text.append(")").toString();
    }

    private static void fieldsAndConstructors() {
        Set<String> found = new TreeSet<>();
        for (Field field : CandleCourt.class.getDeclaredFields()) {
            if (!Modifier.isPrivate(field.getModifiers())) {
                found.add(field.getName());
            }
            boolean changing = Modifier.isStatic(field.getModifiers()) && !Modifier.isFinal(field.getModifiers());
            CHECKS.holds(field + " is no changing static", !changing);
        }
        CHECKS.holds("the constants are " + CONSTANTS + ", not " + found, found.equals(CONSTANTS));
        Constructor<?>[] constructors = CandleCourt.class.getDeclaredConstructors();
        CHECKS.due("constructors", constructors.length, 1);
        CHECKS.due("its parameters", constructors[0].getParameterCount(), 0);
        CHECKS.holds("it is public", Modifier.isPublic(constructors[0].getModifiers()));
        CHECKS.holds("the class is final", Modifier.isFinal(CandleCourt.class.getModifiers()));
    }

    /** Asked of the class itself: what a test names was put into it when it was compiled. */
    private static void values() throws ReflectiveOperationException {
        String[] names = {"UNKNOWN", "OUTSIDE", "STATE", "FULL", "NO", "NONE"};
        for (int i = 0; i < names.length; i++) {
            Field field = CandleCourt.class.getField(names[i]);
            CHECKS.holds(names[i] + " is an int", field.getType() == int.class);
            CHECKS.due(names[i], field.getInt(null), -1 - i);
        }
        Field gone = CandleCourt.class.getField("GONE");
        CHECKS.holds("GONE is a long", gone.getType() == long.class);
        CHECKS.due("GONE", gone.getLong(null), -1000000000000000000L);
    }

    private static void classesInside() {
        int classes = CandleCourt.class.getDeclaredClasses().length + 1;
        CHECKS.holds("the file has " + classes + " classes", classes <= MOST_CLASSES);
        parameters(CandleCourt.class);
        for (Class<?> inside : CandleCourt.class.getDeclaredClasses()) {
            parameters(inside);
            namesOfTheirOwn(inside);
            CHECKS.holds(inside + " is private", Modifier.isPrivate(inside.getModifiers()));
            CHECKS.holds(inside + " is static", Modifier.isStatic(inside.getModifiers()));
            CHECKS.holds(inside + " has some twenty fields", inside.getDeclaredFields().length <= 20);
        }
    }

    private static void parameters(Class<?> owner) {
        for (Method method : owner.getDeclaredMethods()) {
            CHECKS.holds(method + " takes few parameters", method.getParameterCount() <= MOST_PARAMETERS);
        }
    }

    private static void namesOfTheirOwn(Class<?> inside) {
        for (Method method : inside.getDeclaredMethods()) {
            boolean ofTheFace = FACE.stream().anyMatch(call -> call.contains(" " + method.getName() + "("));
            CHECKS.holds(method + " bears a name of its own", !ofTheFace);
        }
    }

    private static void rules(String source) {
        String code = source.replaceAll("(?s)/\\*.*?\\*/", " ").replaceAll("//[^\n]*", " ");
        String[] outside = {"\\bimport\\b", "\\bpackage\\b", "->", "::", "\\w+Exact\\b", "\\bcatch\\b", "\\btry\\b",
            "\\bfinally\\b", "\\bsynchronized\\b", "\\bassert\\b", "\\bthrow\\b", "\\bstatic\\s*\\{", "\\bSystem\\.",
            "\\bArrays\\.", "\\bdouble\\b", "\\bfloat\\b", "\\bequals\\b", "\\bhashCode\\b", "\\btoString\\b"};
        for (String rule : outside) {
            CHECKS.holds("no " + rule + " in the source", !Pattern.compile(rule).matcher(code).find());
        }
        noCallMakesObjects(code);
        shortMethods(source.split("\n"));
    }

    /** A method of the class or of one inside begins at the fourth or the eighth sign, and ends there by a brace. */
    private static void shortMethods(String[] lines) {
        int methods = 0;
        for (int i = 0; i < lines.length; i++) {
            if (!lines[i].matches("( {4}| {8})(public|private|int|long|void|boolean|static|final)\\b.*\\) \\{")) {
                continue;
            }
            String end = lines[i].substring(0, lines[i].length() - lines[i].stripLeading().length()) + "}";
            int last = i;
            while (last < lines.length && !lines[last].equals(end)) {
                last++;
            }
            methods++;
            CHECKS.holds("short enough: " + lines[i].strip(), last < lines.length && last - i < MOST_LINES);
        }
        CHECKS.holds("methods are found, not " + methods, methods > FACE.size());
    }

    /** All calls of a run live in one room: rows are made by the constructor or as fields of what it makes. */
    private static void noCallMakesObjects(String code) {
        int constructorEnds = code.indexOf("public int set(");
        CHECKS.holds("the constructor comes first", constructorEnds > 0);
        for (String line : code.substring(Math.max(0, constructorEnds)).split("\n")) {
            boolean makes = Pattern.compile("\\bnew\\b").matcher(line).find();
            CHECKS.holds("made in a call: " + line, !makes || line.matches(" {8}final int\\[\\] \\w+ = new int\\[\\w+\\];"));
        }
    }
}
