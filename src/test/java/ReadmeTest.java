import java.lang.reflect.Method;
import java.nio.file.Files;
import java.nio.file.Path;
import java.util.regex.Matcher;
import java.util.regex.Pattern;

/** The Java of README.md, line by line: every call answers what stands behind it. */
public final class ReadmeTest {
    private static final Pattern NEW = Pattern.compile("OreSolver desk = new OreSolver\\((\\d+)\\);");
    private static final Pattern TYPED =
        Pattern.compile("for \\(char c : \"(.+)\"\\.toCharArray\\(\\)\\) desk\\.type\\(c\\);");
    private static final Pattern CALL = Pattern.compile("desk\\.(\\w+)\\(([\\d, ]*)\\); *// (-?\\d+)(: .*)?");
    private static final Pattern QUOTED = Pattern.compile("\"(.+)\"");
    private static final String START = "```java";
    private static final String END = "```";

    private static OreSolver desk = null;

    public static void main(String[] args) throws Exception {
        Due.about("README.md");
        boolean inside = false;
        for (String line : Files.readAllLines(Path.of("README.md"))) {
            if (inside && !line.equals(END)) {
                follow(line);
            }
            inside = line.equals(START) || (inside && !line.equals(END));
        }
        Due.be("there is an example", desk != null, true);
        Due.end();
    }

    private static void follow(String line) throws Exception {
        Matcher made = NEW.matcher(line);
        Matcher typed = TYPED.matcher(line);
        Matcher call = CALL.matcher(line);
        if (made.matches()) {
            desk = new OreSolver(Integer.parseInt(made.group(1)));
        } else if (typed.matches()) {
            for (char c : typed.group(1).toCharArray()) {
                Due.be(line, desk.type(c), true);
            }
        } else if (call.matches()) {
            Due.be(line, answer(call.group(1), call.group(2)), Integer.valueOf(call.group(3)));
            checkOutput(line);
        } else {
            Due.fault("no call that can be followed: " + line);
        }
    }

    private static Object answer(String name, String numbers) throws Exception {
        String[] texts = numbers.isEmpty() ? new String[0] : numbers.split(", ");
        Class<?>[] types = new Class<?>[texts.length];
        Object[] values = new Object[texts.length];
        for (int i = 0; i < texts.length; i++) {
            types[i] = int.class;
            values[i] = Integer.valueOf(texts[i]);
        }
        Method method = OreSolver.class.getMethod(name, types);
        return method.invoke(desk, values);
    }

    /** A text in quotes behind a call is what the output must hold. */
    private static void checkOutput(String line) {
        Matcher quoted = QUOTED.matcher(line);
        if (quoted.find()) {
            StringBuilder output = new StringBuilder();
            for (int i = 0; desk.at(i) != OreSolver.BAD; i++) {
                output.append((char) desk.at(i));
            }
            Due.be("output of " + line, output.toString(), quoted.group(1));
        }
    }
}
