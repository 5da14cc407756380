import java.lang.reflect.Constructor;
import java.lang.reflect.Field;
import java.lang.reflect.Method;
import java.lang.reflect.Modifier;
import java.util.Arrays;
import java.util.Set;
import java.util.TreeSet;

/** The public face: what the document lists, and nothing else that is not private. */
public final class FaceTest {
    private static final Check CHECK = new Check("face");
    private static final Set<String> METHODS = Set.of(
        "boolean open(int)",
        "boolean send(int, int, boolean, int, int)",
        "int deliver(int, int)",
        "boolean alter(int, int, boolean)",
        "boolean forge(int, int, int, int, int, int, int)",
        "int tick()",
        "int read(int, int)",
        "int ready(int, int)",
        "int length(int, int)",
        "boolean abort(int)",
        "boolean primary(int, int)",
        "int about(int, int)",
        "int path(int, int, int)",
        "int waiting(int, int)",
        "int word(int, int)");

    public static void main(String[] args) {
        CHECK.due("public and final", StreamLink.class.getModifiers() & 0x11, 0x11);
        methodsAreThoseOfTheDocument();
        fieldsAndConstructor();
        privateNamesAreTheirOwn();
        CHECK.finish();
    }

    private static void methodsAreThoseOfTheDocument() {
        Set<String> found = new TreeSet<>();
        for (Method method : StreamLink.class.getDeclaredMethods()) {
            if (!Modifier.isPrivate(method.getModifiers())) {
                CHECK.due(method + " is public", Modifier.isPublic(method.getModifiers()), true);
                CHECK.due(method + " is static", Modifier.isStatic(method.getModifiers()), false);
                found.add(told(method));
            }
        }
        CHECK.due("methods are " + found, found.equals(METHODS), true);
    }

    private static String told(Method method) {
        String list = Arrays.toString(method.getParameterTypes());
        return method.getReturnType() + " " + method.getName()
            + "(" + list.substring(1, list.length() - 1) + ")";
    }

    private static void fieldsAndConstructor() {
        for (Field field : StreamLink.class.getDeclaredFields()) {
            boolean open = !Modifier.isPrivate(field.getModifiers());
            CHECK.due(field + " is not private", open, field.getName().equals("NONE"));
            if (Modifier.isStatic(field.getModifiers())) {
                CHECK.due(field + " is final", Modifier.isFinal(field.getModifiers()), true);
            }
        }
        CHECK.due("NONE", StreamLink.NONE, -1);
        Constructor<?>[] all = StreamLink.class.getDeclaredConstructors();
        CHECK.due("one constructor", all.length, 1);
        CHECK.due("public", Modifier.isPublic(all[0].getModifiers()), true);
        CHECK.due("of three ints",
            Arrays.equals(all[0].getParameterTypes(), new Class<?>[] {int.class, int.class, int.class}),
            true);
        for (Class<?> inside : StreamLink.class.getDeclaredClasses()) {
            CHECK.due(inside + " is static", Modifier.isStatic(inside.getModifiers()), true);
            CHECK.due(inside + " is public", Modifier.isPublic(inside.getModifiers()), false);
        }
    }

    private static void privateNamesAreTheirOwn() {
        Set<String> names = new TreeSet<>();
        for (String method : METHODS) {
            names.add(method.substring(method.indexOf(' ') + 1, method.indexOf('(')));
        }
        for (Method method : StreamLink.class.getDeclaredMethods()) {
            if (Modifier.isPrivate(method.getModifiers())) {
                CHECK.due(method + " bears a public name", names.contains(method.getName()), false);
            }
        }
    }
}
