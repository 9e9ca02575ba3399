import java.lang.management.ManagementFactory;
import java.lang.reflect.Constructor;
import java.lang.reflect.Field;
import java.lang.reflect.Method;
import java.lang.reflect.Modifier;
import java.nio.file.Files;
import java.nio.file.Path;
import java.util.Arrays;
import java.util.Map;
import java.util.Set;
import java.util.TreeMap;
import java.util.TreeSet;
import java.util.regex.Matcher;
import java.util.regex.Pattern;

/** The public face, what the language rules let one see in the source, and that a run of calls has room. */
public final class FaceTest {
    private static final Path SOURCE = Path.of("src/main/java/OreSolver.java");
    private static final Set<String> METHODS = new TreeSet<>(Arrays.asList(
        "boolean type(char)", "int clear()", "int read(int)", "int order(int)", "int coefficient(int, int, int)",
        "int add(int, int, int, int)", "int multiply(int, int, int)", "int apply(int, int, int)",
        "int divide(int, int, int, int)", "int over(int, int, int)", "int solve(int, int, int)", "int pick(int, int)",
        "int factor(int)", "int line(int)", "boolean same(int, int)", "int show(int)", "int at(int)"));
    private static final Map<String, Integer> CONSTANTS =
        new TreeMap<>(Map.of("BAD", -1, "SYNTAX", -2, "LARGE", -3, "NONE", -4, "ORDER", -5));

    // All the elements that a run of calls has room for, at the four bytes of an int.
    private static final long ROOM_BYTES = 7_300_000L * 4;

    private static int wrong = 0;

    public static void main(String[] args) throws Exception {
        face();
        source();
        room();
        System.out.println(wrong + " wrong");
        if (wrong != 0) {
            System.exit(1);
        }
    }

    private static void due(String what, Object got, Object want) {
        if (!got.equals(want)) {
            wrong++;
            System.out.println(what + " is " + got + ", due is " + want);
        }
    }

    private static void face() throws Exception {
        int modifiers = OreSolver.class.getModifiers();
        due("public and final", Modifier.isPublic(modifiers) && Modifier.isFinal(modifiers), true);
        Set<String> methods = new TreeSet<>();
        Set<String> names = new TreeSet<>();
        for (Method method : OreSolver.class.getDeclaredMethods()) {
            if (!Modifier.isPrivate(method.getModifiers())) {
                String types = Arrays.toString(method.getParameterTypes()).replace("[", "(").replace("]", ")");
                methods.add(method.getReturnType() + " " + method.getName() + types);
                names.add(method.getName());
                due(method + " static", Modifier.isStatic(method.getModifiers()), false);
            }
        }
        due("methods", methods, METHODS);
        noPrivateNamesake(OreSolver.class, names);
        Map<String, Integer> constants = new TreeMap<>();
        for (Field field : OreSolver.class.getDeclaredFields()) {
            if (!Modifier.isPrivate(field.getModifiers())) {
                constants.put(field.getName(), field.getInt(null));
                due(field + " final", Modifier.isFinal(field.getModifiers()), true);
            }
        }
        due("constants", constants, CONSTANTS);
        Constructor<?>[] constructors = OreSolver.class.getDeclaredConstructors();
        due("constructors", Arrays.toString(constructors), "[public OreSolver(int)]");
        for (Class<?> inside : OreSolver.class.getDeclaredClasses()) {
            due(inside + " static", Modifier.isStatic(inside.getModifiers()), true);
            noPrivateNamesake(inside, names);
        }
    }

    private static void noPrivateNamesake(Class<?> type, Set<String> names) {
        for (Method method : type.getDeclaredMethods()) {
            boolean isPrivate = Modifier.isPrivate(method.getModifiers());
            due(method + " bears a name of the face", isPrivate && names.contains(method.getName()), false);
        }
    }

    private static void source() throws Exception {
        String code = Files.readString(SOURCE);
        code = code.replaceAll("(?s)/\\*.*?\\*/", "").replaceAll("//[^\n]*", "");
        for (String none : new String[] {"\\) *->", "::", "\\bpackage\\b", "\\bfinally\\b", "\\bsynchronized\\b",
            "\\bassert\\b", "\\bnative\\b", "Exact\\b", "\\bstatic\\s*\\{", "\\bSystem\\.(?!arraycopy)", "\\bThread\\b",
            "\\bRandom\\b"}) {
            Matcher found = Pattern.compile(none).matcher(code);
            due("the source having " + none, found.find(), false);
        }
        Matcher imports = Pattern.compile("import ([^;]*);").matcher(code);
        while (imports.find()) {
            due("the import " + imports.group(1), imports.group(1).matches("java\\.util\\.[A-Za-z]+"), true);
        }
    }

    private static long allocated() {
        var threads = (com.sun.management.ThreadMXBean) ManagementFactory.getThreadMXBean();
        return threads.getThreadAllocatedBytes(Thread.currentThread().getId());
    }

    private static int everyCall(OreSolver desk, char[] text) {
        int sum = desk.clear();
        for (int n = 0; n < text.length; n++) {
            desk.type(text[n]);
        }
        sum += desk.read(0) + desk.order(0) + desk.coefficient(0, 1, 1) + desk.add(1, 0, 0, 2) + desk.multiply(2, 0, 1);
        sum += desk.solve(0, 7, 12) + desk.pick(3, 1) + desk.apply(4, 0, 3) + desk.divide(5, 6, 1, 0);
        sum += desk.over(6, 0, 3);
        sum += desk.factor(2) + desk.line(0) + desk.show(2) + desk.at(3) + (desk.same(0, 1) ? 1 : 0);
        return sum;
    }

    /** The first desk loads classes; a second one, with its 512 calls, is to stay below the room of a run. */
    private static void room() {
        for (int kind = 0; kind < 2; kind++) {
            char[] text = "T^2-(3x+1)(T-x)".toCharArray();
            everyCall(new OreSolver(kind), text);
            allocated();
            long before = allocated();
            OreSolver desk = new OreSolver(kind);
            for (int n = 0; n < 512 / (text.length + 16); n++) {
                everyCall(desk, text);
            }
            long made = allocated() - before;
            due("less than the room of a run (" + made + " bytes made)", made < ROOM_BYTES, true);
        }
    }
}
