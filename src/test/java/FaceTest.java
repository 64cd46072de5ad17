import java.lang.reflect.Constructor;
import java.lang.reflect.Field;
import java.lang.reflect.Method;
import java.lang.reflect.Modifier;
import java.util.Set;
import java.util.TreeSet;

/** The class shows the document's face and nothing else (LANGUAGE.md, rules 1 and 5). */
public final class FaceTest {
    private static final Set<String> FACE = Set.of(
        "boolean put(long,int)", "int read()", "boolean isClear()", "int competing()", "boolean isEmpty()",
        "long first()", "long next(int)", "long last()", "int name(int)", "boolean come(int)",
        "boolean isWhole()", "int may()", "int again()");

    private FaceTest() {
    }

    public static void main(String[] args) {
        Class<?> desk = ModelDesk.class;
        Checks.due("public", Modifier.isPublic(desk.getModifiers()), true);
        Checks.due("final", Modifier.isFinal(desk.getModifiers()), true);
        methods(desk);
        Constructor<?>[] made = desk.getDeclaredConstructors();
        Checks.due("constructors", made.length, 1);
        Checks.due("its parameters", made[0].getParameterCount(), 0);
        Checks.due("public constructor", Modifier.isPublic(made[0].getModifiers()), true);
        fields(desk);
        for (Class<?> inside : desk.getDeclaredClasses()) {
            Checks.due(inside + " is static", Modifier.isStatic(inside.getModifiers()), true);
            Checks.due(inside + " is public", Modifier.isPublic(inside.getModifiers()), false);
        }
        Checks.end();
    }

    private static void methods(Class<?> desk) {
        Set<String> shown = new TreeSet<>();
        for (Method method : desk.getDeclaredMethods()) {
            if (Modifier.isPrivate(method.getModifiers())) {
                Checks.due("a private " + method.getName(), bearsPublicName(method.getName()), false);
                continue;
            }
            Checks.due(method + " is public", Modifier.isPublic(method.getModifiers()), true);
            shown.add(written(method));
        }
        Checks.due("the face " + shown, shown.equals(FACE), true);
    }

    private static boolean bearsPublicName(String name) {
        for (String method : FACE) {
            if (method.contains(" " + name + "(")) {
                return true;
            }
        }
        return false;
    }

    private static String written(Method method) {
        StringBuilder text = new StringBuilder(method.getReturnType().getName());
        text.append(' ').append(method.getName()).append('(');
        String comma = "";
        for (Class<?> type : method.getParameterTypes()) {
            text.append(comma).append(type.getName());
            comma = ",";
        }
        return text.append(')').toString();
    }

    private static void fields(Class<?> desk) {
        for (Field field : desk.getDeclaredFields()) {
            int modifiers = field.getModifiers();
            Checks.due(field + " is private", Modifier.isPrivate(modifiers), true);
            Checks.due(field + " is final if static",
                !Modifier.isStatic(modifiers) || Modifier.isFinal(modifiers), true);
        }
    }
}
