import java.lang.reflect.Constructor;
import java.lang.reflect.Field;
import java.lang.reflect.Method;
import java.lang.reflect.Modifier;
import java.util.Arrays;
import java.util.Set;
import java.util.TreeSet;

/** The document's face, and nothing beside it that others could see. */
public final class FaceTest {
    private static final String ARGUMENT = " IllegalArgumentException";
    private static final String STATE = " IllegalStateException";

    private static final Set<String> DUE = new TreeSet<>(Arrays.asList(
            "int bridge()" + STATE,
            "int link(int, int, int)" + ARGUMENT + STATE,
            "void owner(int, int, int)" + ARGUMENT + STATE,
            "int start()" + STATE,
            "boolean fail(int)" + ARGUMENT + STATE,
            "boolean heal(int)" + ARGUMENT + STATE,
            "int lose(int, int)" + ARGUMENT + STATE,
            "boolean order(int, int, boolean)" + ARGUMENT + STATE,
            "boolean clear(int, int)" + ARGUMENT + STATE,
            "int ticks(int)" + ARGUMENT + STATE,
            "int host(int, int)" + ARGUMENT + STATE,
            "int send(int, int, int)" + ARGUMENT + STATE,
            "int visits()",
            "int holds(int, int)" + ARGUMENT,
            "int told(int, int, int)" + ARGUMENT,
            "int learned(int, int, int)" + ARGUMENT,
            "boolean joined(int, int)" + ARGUMENT,
            "int casts()",
            "int lost()",
            "int circles()",
            "int apart()"));

    public static void main(String[] args) {
        Class<?> face = RingGuard.class;
        Check.isTrue("public and final", Modifier.isPublic(face.getModifiers()) && Modifier.isFinal(face.getModifiers()));
        Set<String> seen = new TreeSet<>();
        Set<String> publicNames = new TreeSet<>();
        for (Method method : face.getDeclaredMethods()) {
            if (!Modifier.isPrivate(method.getModifiers())) {
                seen.add(describe(method));
                publicNames.add(method.getName());
            }
        }
        Check.equal("methods", seen, DUE);
        for (Method method : face.getDeclaredMethods()) {
            boolean isPrivate = Modifier.isPrivate(method.getModifiers());
            Check.isFalse("private " + method.getName(), isPrivate && publicNames.contains(method.getName()));
        }
        for (Field field : face.getDeclaredFields()) {
            boolean isFace = field.getName().equals("NONE");
            Check.equal("field " + field.getName(), Modifier.isPrivate(field.getModifiers()), !isFace);
        }
        Constructor<?>[] made = face.getDeclaredConstructors();
        Check.equal("constructors", made.length, 1);
        Check.equal("its parameters", made[0].getParameterCount(), 0);
        Check.isTrue("is public", Modifier.isPublic(made[0].getModifiers()));
        Check.end();
    }

    private static String describe(Method method) {
        StringBuilder text = new StringBuilder(method.getReturnType().getSimpleName());
        text.append(' ').append(method.getName()).append('(');
        for (int i = 0; i < method.getParameterCount(); i++) {
            text.append(i == 0 ? "" : ", ").append(method.getParameterTypes()[i].getSimpleName());
        }
        text.append(')');
        for (Class<?> thrown : method.getExceptionTypes()) {
            text.append(' ').append(thrown.getSimpleName());
        }
        return text.toString();
    }
}
