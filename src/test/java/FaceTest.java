import java.io.IOException;
import java.lang.reflect.Constructor;
import java.lang.reflect.Field;
import java.lang.reflect.Method;
import java.lang.reflect.Modifier;
import java.util.TreeSet;

/** The public face is the document's, and nothing else can be seen. */
public final class FaceTest {
    public static void main(String[] args) throws IOException {
        Check check = new Check("FaceTest");
        TreeSet<String> seen = new TreeSet<>();
        for (Method method : EscapeMill.class.getDeclaredMethods()) {
            if (!Modifier.isPrivate(method.getModifiers())) {
                seen.add(told(method));
                check.holds("public is " + method, Modifier.isPublic(method.getModifiers()));
            }
        }
        check.holds("methods are " + seen, seen.equals(documented()));
        check.due("methods of the document", seen.size(), 11);
        check.due("NONE", EscapeMill.NONE, -1);
        check.holds("the document has NONE", Pages.document().contains("public static final int NONE = -1;"));
        for (Field field : EscapeMill.class.getDeclaredFields()) {
            boolean open = field.getName().equals("NONE");
            check.holds("field " + field, open == !Modifier.isPrivate(field.getModifiers()));
        }
        Constructor<?>[] constructors = EscapeMill.class.getDeclaredConstructors();
        check.due("constructors", constructors.length, 1);
        check.due("its parameters", constructors[0].getParameterCount(), 0);
        check.holds("a public constructor", Modifier.isPublic(constructors[0].getModifiers()));
        check.due("the class is public and final", EscapeMill.class.getModifiers(),
                Modifier.PUBLIC | Modifier.FINAL);
        check.end();
    }

    /** The methods of the document's face, without the names of their parameters. */
    private static TreeSet<String> documented() throws IOException {
        TreeSet<String> methods = new TreeSet<>();
        for (String[] member : Pages.face()) {
            if (!member[0].equals("EscapeMill()")) {
                String plain = member[0].replaceAll("(int|boolean) \\w+(, |\\))", "$1$2").replace(", ", ",");
                methods.add(plain + member[1].replace(" throws", "").replace(",", ""));
            }
        }
        return methods;
    }

    private static String told(Method method) {
        StringBuilder text = new StringBuilder();
        text.append(method.getReturnType().getSimpleName()).append(' ').append(method.getName()).append('(');
        Class<?>[] types = method.getParameterTypes();
        for (int k = 0; k < types.length; k++) {
            text.append(k == 0 ? "" : ",").append(types[k].getSimpleName());
        }
        text.append(')');
        for (Class<?> thrown : method.getExceptionTypes()) {
            text.append(' ').append(thrown.getSimpleName());
        }
        return text.toString();
    }
}
