import java.lang.reflect.Constructor;
import java.lang.reflect.Field;
import java.lang.reflect.Method;
import java.lang.reflect.Modifier;
import java.util.Arrays;
import java.util.List;
import java.util.Set;
import java.util.TreeSet;

/** The document's public face: the code block is the whole face, with its types and its exceptions in their order. */
public final class FaceTest {

    private static final List<String> FACE = List.of(
            "int addHouse(int, int, int) throws IllegalArgumentException, IllegalStateException",
            "int addPump(int, int) throws IllegalArgumentException, IllegalStateException",
            "int lodge(int, int) throws IndexOutOfBoundsException, IllegalArgumentException",
            "int prefer(int, int) throws IndexOutOfBoundsException",
            "int leave(int, int) throws IndexOutOfBoundsException, IllegalArgumentException",
            "int fine(int, int) throws IndexOutOfBoundsException, IllegalArgumentException",
            "int enrol(int, int) throws IndexOutOfBoundsException, IllegalStateException",
            "int change(int, int, int) throws IndexOutOfBoundsException",
            "int roster(int, int) throws IndexOutOfBoundsException",
            "int ahead(int, int) throws IndexOutOfBoundsException",
            "int house(int, int) throws IndexOutOfBoundsException",
            "int pump(int, int) throws IndexOutOfBoundsException",
            "int pass(int) throws IllegalArgumentException",
            "int count(int) throws IndexOutOfBoundsException",
            "int foresee(int, int) throws IllegalArgumentException, IndexOutOfBoundsException",
            "int advise(int, int) throws IndexOutOfBoundsException, IllegalArgumentException",
            "int unfair(int) throws IndexOutOfBoundsException",
            "double daily()",
            "long digest()");

    public static void main(String[] args) {
        theClass();
        theConstructor();
        theMethods();
        noPublicOrSharedState();
        Check.finish("FaceTest");
    }

    private static void theClass() {
        Check.sentence("public final class PumpRoster {");
        int modifiers = PumpRoster.class.getModifiers();
        Check.due("public and final", modifiers & (Modifier.PUBLIC | Modifier.FINAL), Modifier.PUBLIC | Modifier.FINAL);
        Check.dueText("its class above", PumpRoster.class.getSuperclass().getName(), "java.lang.Object");
        Check.due("its interfaces", PumpRoster.class.getInterfaces().length, 0);
        Check.due("its public classes", PumpRoster.class.getClasses().length, 0);
    }

    private static void theConstructor() {
        Check.sentence("public PumpRoster();");
        Constructor<?>[] made = PumpRoster.class.getDeclaredConstructors();
        Check.due("constructors", made.length, 1);
        Check.dueText("the constructor", made[0].toString(), "public PumpRoster()");
    }

    private static void theMethods() {
        Check.sentence("the code block is the whole face");
        Set<String> told = new TreeSet<>();
        Set<String> privateNames = new TreeSet<>();
        for (Method method : PumpRoster.class.getDeclaredMethods()) {
            if (Modifier.isPrivate(method.getModifiers())) {
                privateNames.add(method.getName());
            } else {
                Check.due("the modifiers of " + method.getName(), method.getModifiers(), Modifier.PUBLIC);
                told.add(words(method));
            }
        }
        Check.dueText("the methods that are not private", String.join("\n", told),
                String.join("\n", new TreeSet<>(FACE)));
        for (String face : FACE) {
            String name = face.substring(face.indexOf(' ') + 1, face.indexOf('('));
            Check.due("private methods named " + name, privateNames.contains(name) ? 1 : 0, 0);
        }
    }

    private static void noPublicOrSharedState() {
        Check.sentence("the code block is the whole face");
        for (Field field : PumpRoster.class.getDeclaredFields()) {
            int modifiers = field.getModifiers();
            Check.due("private: " + field.getName(), Modifier.isPrivate(modifiers) ? 1 : 0, 1);
            Check.due("final, if static: " + field.getName(),
                    !Modifier.isStatic(modifiers) || Modifier.isFinal(modifiers) ? 1 : 0, 1);
        }
    }

    private static String words(Method method) {
        String takes = String.join(", ", simpleNames(method.getParameterTypes()));
        String thrown = String.join(", ", simpleNames(method.getExceptionTypes()));
        return method.getReturnType().getSimpleName() + " " + method.getName() + "(" + takes + ")"
                + (thrown.isEmpty() ? "" : " throws " + thrown);
    }

    private static List<String> simpleNames(Class<?>[] types) {
        return Arrays.stream(types).map(Class::getSimpleName).toList();
    }
}
