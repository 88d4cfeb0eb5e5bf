import java.lang.reflect.Constructor;
import java.lang.reflect.Field;
import java.lang.reflect.Method;
import java.lang.reflect.Modifier;
import java.util.Arrays;
import java.util.TreeSet;

/** The public face is the document's, and nothing else can be seen. */
public final class FaceTest {
    private static final String[] FACE = {
        "boolean parameters(int,int) IllegalArgumentException",
        "int put(int,int,int,int,int,int) IllegalArgumentException IllegalStateException",
        "int clear(int) IllegalArgumentException",
        "int run(boolean)",
        "int shown(int) IndexOutOfBoundsException",
        "int latest(int)",
        "int escape(int,int)",
        "int summary(int,int)",
        "int fate(int,int)",
        "int may(int,int)",
        "int length(int)",
    };

    public static void main(String[] args) {
        Check check = new Check("FaceTest");
        TreeSet<String> seen = new TreeSet<>();
        for (Method method : EscapeMill.class.getDeclaredMethods()) {
            if (!Modifier.isPrivate(method.getModifiers())) {
                seen.add(told(method));
                check.holds("public is " + method, Modifier.isPublic(method.getModifiers()));
            }
        }
        check.holds("methods are " + seen, seen.equals(new TreeSet<>(Arrays.asList(FACE))));
        for (Field field : EscapeMill.class.getDeclaredFields()) {
            boolean open = field.getName().equals("NONE");
            check.holds("field " + field, open == !Modifier.isPrivate(field.getModifiers()));
        }
        Constructor<?>[] constructors = EscapeMill.class.getDeclaredConstructors();
        check.due("constructors", constructors.length, 1);
        check.due("its parameters", constructors[0].getParameterCount(), 0);
        check.holds("a public constructor", Modifier.isPublic(constructors[0].getModifiers()));
        check.due("the class is public and final", EscapeMill.class.getModifiers(),
                Modifier.PUBLIC | Modifier.FINAL);
        check.end();
    }

    private static String told(Method method) {
        StringBuilder text = new StringBuilder();
        text.append(method.getReturnType().getSimpleName()).append(' ').append(method.getName()).append('(');
        Class<?>[] types = method.getParameterTypes();
        for (int k = 0; k < types.length; k++) {
            text.append(k == 0 ? "" : ",").append(types[k].getSimpleName());
        }
        text.append(')');
        for (Class<?> thrown : method.getExceptionTypes()) {
            text.append(' ').append(thrown.getSimpleName());
        }
        return text.toString();
    }
}
