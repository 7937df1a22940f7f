import java.lang.reflect.Constructor;
import java.lang.reflect.Field;
import java.lang.reflect.Method;
import java.lang.reflect.Modifier;
import java.util.TreeSet;

/** The public face: what the document writes there, and no other member that can be seen. */
public final class FaceTest {
    private static final String[] METHODS = {
        "int addStep(int,int,int,int)", "boolean supply(int,int,int)", "int begin(int)",
        "int flush(int)", "int deliver(int)", "boolean lose(int)", "boolean repeat(int)",
        "boolean resend(int)", "boolean crash(int)", "boolean restart(int)",
        "int amount(int,int)", "int status(int)", "int messages()", "int message(int)",
        "int logged()", "int durable()", "int logByte(int)", "int answered(int)",
        "boolean up(int)"};

    public static void main(String[] args) {
        Class<?> desk = LoggedSagaDesk.class;
        Checks.due("the class is final", Modifier.isFinal(desk.getModifiers()), true);
        Checks.due("the class is public", Modifier.isPublic(desk.getModifiers()), true);
        Checks.due("BAD", LoggedSagaDesk.BAD, -1);
        Checks.due("DOWN", LoggedSagaDesk.DOWN, -2);
        Checks.due("FULL", LoggedSagaDesk.FULL, -3);
        Checks.due("LOCKED", LoggedSagaDesk.LOCKED, -4);
        Checks.due("methods", methodsSeen(desk).toString(), sorted(METHODS).toString());
        Checks.due("fields", fieldsSeen(desk).toString(),
                sorted("int BAD", "int DOWN", "int FULL", "int LOCKED").toString());
        checkConstructors(desk);
        checkNames(desk);
        checkClassesInside(desk);
        Checks.end();
    }

    private static TreeSet<String> sorted(String... texts) {
        return new TreeSet<>(java.util.List.of(texts));
    }

    private static TreeSet<String> methodsSeen(Class<?> type) {
        TreeSet<String> seen = new TreeSet<>();
        for (Method method : type.getDeclaredMethods()) {
            if (!Modifier.isPrivate(method.getModifiers()) && !method.isSynthetic()) {
                Checks.due(method + " is public and of the object",
                        method.getModifiers() == Modifier.PUBLIC, true);
                seen.add(written(method));
            }
        }
        return seen;
    }

    private static String written(Method method) {
        StringBuilder text = new StringBuilder();
        text.append(method.getReturnType().getName()).append(' ').append(method.getName());
        text.append('(');
        for (Class<?> type : method.getParameterTypes()) {
            text.append(text.charAt(text.length() - 1) == '(' ? "" : ",").append(type.getName());
        }
        return text.append(')').toString();
    }

    private static TreeSet<String> fieldsSeen(Class<?> type) {
        TreeSet<String> seen = new TreeSet<>();
        for (Field field : type.getDeclaredFields()) {
            int modifiers = field.getModifiers();
            if (Modifier.isStatic(modifiers)) {
                Checks.due(field + " is final", Modifier.isFinal(modifiers), true);
            }
            if (!Modifier.isPrivate(modifiers)) {
                Checks.due(field + " is a constant", Modifier.isStatic(modifiers), true);
                seen.add(field.getType().getName() + " " + field.getName());
            }
        }
        return seen;
    }

    private static void checkConstructors(Class<?> type) {
        Constructor<?>[] constructors = type.getDeclaredConstructors();
        Checks.due("number of constructors", constructors.length, 1);
        Checks.due("parameters", constructors[0].getParameterCount(), 0);
        Checks.due("public", Modifier.isPublic(constructors[0].getModifiers()), true);
    }

    private static void checkNames(Class<?> type) {
        TreeSet<String> faceNames = new TreeSet<>();
        for (Method method : type.getDeclaredMethods()) {
            if (Modifier.isPublic(method.getModifiers())) {
                faceNames.add(method.getName());
            }
        }
        for (Method method : type.getDeclaredMethods()) {
            if (Modifier.isPrivate(method.getModifiers())) {
                Checks.due(method.getName() + " is a name of the face",
                        faceNames.contains(method.getName()), false);
            }
        }
    }

    private static void checkClassesInside(Class<?> type) {
        Class<?>[] inside = type.getDeclaredClasses();
        Checks.due("at most twelve classes", inside.length <= 11, true);
        for (Class<?> one : inside) {
            int modifiers = one.getModifiers();
            Checks.due(one + " is static", Modifier.isStatic(modifiers), true);
            Checks.due(one + " is hidden",
                    !Modifier.isPublic(modifiers) && !Modifier.isProtected(modifiers), true);
        }
    }
}
