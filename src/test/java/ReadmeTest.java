import java.lang.reflect.Method;
import java.lang.reflect.Modifier;
import java.nio.file.Files;
import java.nio.file.Path;
import java.util.Set;
import java.util.TreeSet;
import java.util.regex.Matcher;
import java.util.regex.Pattern;

/**
 * README.md, read from the project's directory, where .ci/run starts every test: it names all of the
 * public face, and each call of its example answers what the first word of its comment says.
 */
public final class ReadmeTest {
    private static final String[] FACE = {
        "RUNNING = 0", "HALTED = 1", "ILLEGAL = 2", "BAD = -1", "MicroLc3()",
        "boolean poke(int cell, int word)", "int peek(int cell)",
        "boolean setRegister(int r, int word)", "int register(int r)",
        "boolean start(int word)", "int step(int n)",
        "int place()", "int sign()", "int status()", "int count()"};
    private static final Pattern CALL = Pattern.compile("machine\\.(\\w+)\\((.*)\\); +// ([-\\w]+).*");

    public static void main(String[] args) throws Exception {
        String readme = Files.readString(Path.of("README.md"));
        for (String member : FACE) {
            Due.is("README.md has a row for " + member, readme.contains("\n| `" + member + "` | "), true);
        }
        theExample(readme);
        Due.end();
    }

    private static void theExample(String readme) throws Exception {
        MicroLc3 machine = new MicroLc3();
        Set<String> called = new TreeSet<>();
        for (String line : readme.split("\n")) {
            Matcher call = CALL.matcher(line);
            if (call.matches()) {
                called.add(call.group(1));
                String answer = answer(machine, call.group(1), call.group(2));
                Due.is(line + ": " + answer, answer.equals(call.group(3)), true);
            } else {
                Due.is("without an answer: " + line, line.startsWith("machine."), false);
            }
        }
        Due.is("every method is in the example: " + called, called.equals(methods()), true);
    }

    private static String answer(MicroLc3 machine, String name, String arguments) throws Exception {
        String[] texts = arguments.isEmpty() ? new String[0] : arguments.split(", ");
        Class<?>[] types = new Class<?>[texts.length];
        Object[] numbers = new Object[texts.length];
        for (int i = 0; i < texts.length; i++) {
            types[i] = int.class;
            numbers[i] = Integer.decode(texts[i]);
        }
        return String.valueOf(MicroLc3.class.getMethod(name, types).invoke(machine, numbers));
    }

    private static Set<String> methods() {
        Set<String> names = new TreeSet<>();
        for (Method method : MicroLc3.class.getDeclaredMethods()) {
            if (Modifier.isPublic(method.getModifiers())) {
                names.add(method.getName());
            }
        }
        return names;
    }
}
