import java.lang.reflect.Constructor;
import java.lang.reflect.Field;
import java.lang.reflect.Method;
import java.lang.reflect.Modifier;
import java.util.Arrays;
import java.util.TreeSet;

/** The public face: what the document names, and nothing else that isn't private. */
public final class FaceTest {
    private static final String[] METHODS = {
        "boolean write(char)", "int compile() IllegalArgumentException", "int place()", "int code(int, int)",
        "int run(int) IllegalArgumentException IllegalStateException UnsupportedOperationException", "int state()",
        "int why()", "int next()", "int depth()", "int used()", "int live()", "int collections()", "int kind(int)",
        "int value(int)"
    };

    public static void main(String[] args) {
        TreeSet<String> got = new TreeSet<>();
        for (Method method : ClosureHeap.class.getDeclaredMethods()) {
            if (!Modifier.isPrivate(method.getModifiers())) {
                Check.due(method.getName() + " is public", method.getModifiers(), Modifier.PUBLIC);
                got.add(signature(method));
            }
        }
        Check.due("methods", got.toString(), new TreeSet<>(Arrays.asList(METHODS)).toString());
        for (Field field : ClosureHeap.class.getDeclaredFields()) {
            if (!Modifier.isPrivate(field.getModifiers())) {
                Check.due("fields", field.toString(), "public static final int ClosureHeap.NONE");
            }
        }
        Constructor<?>[] constructors = ClosureHeap.class.getDeclaredConstructors();
        Check.due("constructors", constructors.length, 1);
        Check.due("constructor", constructors[0].toString(), "public ClosureHeap(int)");
        Check.due("class", ClosureHeap.class.getModifiers(), Modifier.PUBLIC | Modifier.FINAL);
        Check.due("NONE", ClosureHeap.NONE, -1);
        Check.finish();
    }

    private static String signature(Method method) {
        StringBuilder text = new StringBuilder();
        text.append(method.getReturnType().getSimpleName()).append(' ').append(method.getName()).append('(');
        for (int i = 0; i < method.getParameterCount(); i++) {
            text.append(i == 0 ? "" : ", ").append(method.getParameterTypes()[i].getSimpleName());
        }
        text.append(')');
        for (Class<?> thrown : method.getExceptionTypes()) {
            text.append(' ').append(thrown.getSimpleName());
        }
        return text.toString();
    }
}
