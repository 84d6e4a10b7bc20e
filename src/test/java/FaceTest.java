import java.lang.reflect.Field;
import java.lang.reflect.Method;
import java.lang.reflect.Modifier;
import java.util.Arrays;
import java.util.TreeSet;

/** The public face: the constants, constructor and methods of the document, and nothing more that can be seen. */
public final class FaceTest {
    private static final String[] METHODS = {
        "boolean poke(int, int)", "boolean setRegister(int, int)", "boolean start(int)", "int count()",
        "int peek(int)", "int place()", "int register(int)", "int sign()", "int status()", "int step(int)"};
    private static final String[] CONSTANTS = {"int BAD", "int HALTED", "int ILLEGAL", "int RUNNING"};

    public static void main(String[] args) {
        Due.is("RUNNING", MicroLc3.RUNNING, 0);
        Due.is("HALTED", MicroLc3.HALTED, 1);
        Due.is("ILLEGAL", MicroLc3.ILLEGAL, 2);
        Due.is("BAD", MicroLc3.BAD, -1);
        Class<?> face = MicroLc3.class;
        Due.is("public and final", Modifier.isPublic(face.getModifiers()) && Modifier.isFinal(face.getModifiers()), true);
        Due.is("nested classes", face.getDeclaredClasses().length, 0);
        Due.is("interfaces", face.getInterfaces().length, 0);
        Due.is("constructors", face.getDeclaredConstructors().length, 1);
        Due.is("public constructors without arguments", face.getConstructors()[0].getParameterCount(), 0);
        same("methods", methods(face), METHODS);
        same("constants", constants(face), CONSTANTS);
        Due.end();
    }

    private static void same(String what, TreeSet<String> got, String[] want) {
        boolean same = got.equals(new TreeSet<>(Arrays.asList(want)));
        Due.is(what + " that can be seen: " + got, same, true);
    }

    private static TreeSet<String> methods(Class<?> face) {
        TreeSet<String> seen = new TreeSet<>();
        for (Method method : face.getDeclaredMethods()) {
            int modifiers = method.getModifiers();
            if (!Modifier.isPrivate(modifiers)) {
                String types = Arrays.toString(method.getParameterTypes());
                String kind = modifiers == Modifier.PUBLIC ? "" : Modifier.toString(modifiers) + " ";
                seen.add(kind + method.getReturnType() + " " + method.getName()
                    + "(" + types.substring(1, types.length() - 1) + ")");
            }
        }
        return seen;
    }

    private static TreeSet<String> constants(Class<?> face) {
        int constant = Modifier.PUBLIC | Modifier.STATIC | Modifier.FINAL;
        TreeSet<String> seen = new TreeSet<>();
        for (Field field : face.getDeclaredFields()) {
            int modifiers = field.getModifiers();
            if (!Modifier.isPrivate(modifiers)) {
                String kind = modifiers == constant ? "" : Modifier.toString(modifiers) + " ";
                seen.add(kind + field.getType() + " " + field.getName());
            }
        }
        return seen;
    }
}
