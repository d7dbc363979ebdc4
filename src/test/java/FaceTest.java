import java.lang.reflect.Constructor;
import java.lang.reflect.Field;
import java.lang.reflect.Method;
import java.lang.reflect.Modifier;
import java.util.Arrays;
import java.util.TreeSet;
import java.util.stream.Collectors;

/** The public face: the document's constructor and methods with their exceptions, and nothing else. */
public final class FaceTest {
    private static final String ARGUMENT = "IllegalArgumentException";
    private static final String STATE = "IllegalStateException";
    private static final String INDEX = "IndexOutOfBoundsException";
    private static final String[] DUE = {
        "int append(int) " + ARGUMENT + " " + STATE,
        "int clear()",
        "int add(int) " + ARGUMENT + " " + STATE,
        "int remove(int) " + INDEX,
        "int setBranch(int, int) " + INDEX + " " + ARGUMENT,
        "int setWeight(int, int) " + INDEX + " " + ARGUMENT,
        "int setLoad(int) " + ARGUMENT,
        "int execute() " + ARGUMENT + " " + STATE,
        "int errorPosition()",
        "int property(int, int) " + INDEX + " " + ARGUMENT,
        "int character(int, int) " + INDEX,
        "int difference(int, int) " + INDEX + " " + ARGUMENT,
        "int size(int) " + ARGUMENT,
        "int find(int) " + ARGUMENT + " " + STATE,
        "int branch(int) " + ARGUMENT + " " + STATE,
        "int examined(int) " + ARGUMENT + " " + STATE,
        "int cost(int) " + ARGUMENT + " " + STATE,
        "int worst(int) " + ARGUMENT + " " + STATE,
        "long meanBits(int) " + ARGUMENT + " " + STATE + " ArithmeticException",
        "int best()",
        "int trees(int) " + ARGUMENT,
        "int selected()",
        "int hash(int)",
        "int table(int) " + ARGUMENT + " " + STATE,
        "int slot(int) " + STATE + " " + INDEX,
        "int displacement(int) " + STATE + " " + INDEX,
        "int densityBits() " + STATE,
        "int listing(int, int) " + ARGUMENT + " " + STATE + " " + INDEX,
        "int save()",
        "int restore() " + STATE};

    private FaceTest() {
    }

    public static void main(String[] args) {
        Check check = new Check("FaceTest");
        Class<TextSwitchCompiler> face = TextSwitchCompiler.class;
        check.same("the class", Modifier.toString(face.getModifiers()), "public final");
        check.same("its superclass", face.getSuperclass().getSimpleName(), "Object");
        check.same("its interfaces", String.valueOf(face.getInterfaces().length), "0");
        for (Constructor<?> constructor : face.getDeclaredConstructors()) {
            check.same("a constructor", constructor.toString(), "public TextSwitchCompiler()");
        }
        TreeSet<String> got = new TreeSet<>();
        TreeSet<String> names = new TreeSet<>();
        for (Method method : face.getDeclaredMethods()) {
            if (Modifier.isPublic(method.getModifiers())) {
                got.add(told(method));
                names.add(method.getName());
            }
        }
        check.same("the public methods", got.toString(), new TreeSet<>(Arrays.asList(DUE)).toString());
        hidden(check, names);
        check.close();
    }

    private static String told(Method method) {
        String parameters = Arrays.stream(method.getParameterTypes()).map(Class::getSimpleName)
            .collect(Collectors.joining(", "));
        String thrown = Arrays.stream(method.getExceptionTypes()).map(type -> " " + type.getSimpleName())
            .collect(Collectors.joining());
        return method.getReturnType().getSimpleName() + " " + method.getName() + "(" + parameters + ")" + thrown;
    }

    private static void hidden(Check check, TreeSet<String> names) {
        for (Method method : TextSwitchCompiler.class.getDeclaredMethods()) {
            if (!Modifier.isPublic(method.getModifiers()) && !method.isSynthetic()) {
                String what = "the method " + method.getName();
                check.same(what, String.valueOf(Modifier.isPrivate(method.getModifiers())), "true");
                check.same(what + " bears a public name", String.valueOf(names.contains(method.getName())), "false");
            }
        }
        for (Field field : TextSwitchCompiler.class.getDeclaredFields()) {
            String modifiers = Modifier.toString(field.getModifiers());
            check.same("the field " + field.getName(), String.valueOf(modifiers.startsWith("private")), "true");
            boolean changes = modifiers.contains("static") && !modifiers.contains("final");
            check.same("the field " + field.getName() + " changes for all", String.valueOf(changes), "false");
        }
        for (Class<?> inside : TextSwitchCompiler.class.getDeclaredClasses()) {
            String modifiers = Modifier.toString(inside.getModifiers());
            check.same("the class " + inside.getSimpleName(), modifiers, "private static final");
        }
    }
}
