import java.lang.reflect.Field;
import java.lang.reflect.Method;
import java.lang.reflect.Modifier;
import java.nio.file.Files;
import java.nio.file.Path;
import java.util.Set;
import java.util.TreeSet;
import java.util.regex.Matcher;
import java.util.regex.Pattern;

/**
 * The rules of LANGUAGE.md that the class's text or its members show: 1 (with FaceTest), 2, 3, 4 in
 * part, 5, 6, and 10 in part. That every call ends without a fault, that no method comes back to
 * itself and that nothing but the calls decides the answers is left to the reader.
 */
public final class LanguageTest {
    private static final Set<Class<?>> TYPES = Set.of(int.class, long.class, short.class, byte.class, char.class,
        boolean.class, int[].class, long[].class, short[].class, byte[].class, char[].class, boolean[].class);
    private static final String[] UNUSED_WORDS = {"import", "package", "interface", "enum", "record", "float",
        "double", "null", "throw", "throws", "try", "catch", "synchronized", "assert", "instanceof", "var",
        "->", "::", "\"", "@"};

    public static void main(String[] args) throws Exception {
        String source = Files.readString(Path.of("src/main/java/MicroLc3.java"));
        String code = source.replaceAll("//[^\n]*", "").replaceAll("(?s)/\\*.*?\\*/", "");
        fields();
        methods();
        words(code);
        arrays(code);
        Due.is("a call inside the arguments of a call", found(code, "\\w\\([^();]*\\b\\w+\\("), 0);
        Due.end();
    }

    /** Rules 2, 5 and 10. */
    private static void fields() {
        int variable = 0;
        for (Field field : MicroLc3.class.getDeclaredFields()) {
            Class<?> type = field.getType();
            Due.is("the type of " + field, TYPES.contains(type), true);
            if (Modifier.isStatic(field.getModifiers())) {
                Due.is("constant: " + field, Modifier.isFinal(field.getModifiers()), true);
                Due.is("int or long: " + field, type == int.class || type == long.class, true);
            } else {
                variable++;
            }
        }
        Due.is("at most forty fields: " + variable, variable <= 40, true);
    }

    /** Rules 1, 2, 4 and 10. */
    private static void methods() {
        Set<String> open = new TreeSet<>();
        Set<String> closed = new TreeSet<>();
        for (Method method : MicroLc3.class.getDeclaredMethods()) {
            boolean isPrivate = Modifier.isPrivate(method.getModifiers());
            (isPrivate ? closed : open).add(method.getName());
            Due.is("at most seven parameters: " + method, method.getParameterCount() <= 7, true);
            for (Class<?> type : method.getParameterTypes()) {
                Due.is("the parameters of " + method, TYPES.contains(type), true);
            }
            Class<?> answer = method.getReturnType();
            Due.is("the answer of " + method, answer == void.class || TYPES.contains(answer) && !answer.isArray(), true);
        }
        closed.retainAll(open);
        Due.is("private methods with a public one's name: " + closed, closed.size(), 0);
    }

    /** Rules 2, 3 and 6; a name like Math has one capital letter before small ones. */
    private static void words(String code) {
        for (String word : UNUSED_WORDS) {
            boolean isName = Character.isLetter(word.charAt(0));
            Due.is("uses of " + word, found(code, isName ? "\\b" + word + "\\b" : Pattern.quote(word)), 0);
        }
        Due.is("classes", found(code, "\\bclass\\b"), 1);
        Due.is("names of other classes", found(code, "\\b(?!MicroLc3\\b)[A-Z]\\w*[a-z]"), 0);
        Due.is("calls of an object's methods", found(code, "\\.\\s*\\w+\\s*\\("), 0);
    }

    /** Rule 4: every array is made in the initialiser of a private final field. */
    private static void arrays(String code) {
        int made = found(code, "private final (\\w+)\\[\\] \\w+ = new \\1\\[\\w+\\];");
        Due.is("arrays and objects made", found(code, "\\bnew\\b"), made);
        Due.is("arrays made without new", found(code, "\\]\\s*\\w+\\s*=\\s*\\{"), 0);
    }

    private static int found(String code, String pattern) {
        Matcher matcher = Pattern.compile(pattern).matcher(code);
        int times = 0;
        while (matcher.find()) {
            times++;
        }
        return times;
    }
}
