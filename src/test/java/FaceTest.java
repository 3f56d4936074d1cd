import java.lang.reflect.Constructor;
import java.lang.reflect.Field;
import java.lang.reflect.Method;
import java.lang.reflect.Modifier;
import java.util.Arrays;
import java.util.TreeSet;

/** The public face is the document's, and nothing but it can be seen from outside. */
public final class FaceTest {
    private static final String[] METHODS = {
        "boolean drop[int]", "boolean remove[int]", "boolean type[int, int, int, int, int]",
        "int clear[boolean]", "int count[int]", "int found[int, int, int, int, boolean]",
        "int letter[int]", "int mapping[int]", "int member[int, int, int, int]",
        "int name[boolean, int, int]", "int needs[int, int]", "int part[int, int]",
        "int refer[int, int, int, int, int]", "int rule[]", "int selected[int, int, int, boolean]",
        "int trace[int, int, boolean]"
    };

    public static void main(String[] args) {
        Check check = new Check();
        check.due("the class is public and final",
            ShrinkForge.class.getModifiers() & (Modifier.PUBLIC | Modifier.FINAL), Modifier.PUBLIC | Modifier.FINAL);
        check.due("REFUSED", ShrinkForge.REFUSED, -1);
        check.due("NONE", ShrinkForge.NONE, -2);
        check.due("FULL", ShrinkForge.FULL, -3);
        check.due("fields", fields().toString(), "[FULL, NONE, REFUSED]");
        check.due("methods", methods().toString(), new TreeSet<>(Arrays.asList(METHODS)).toString());
        check.due("constructors", constructors().toString(), "[[]]");
        check.end("FaceTest");
    }

    private static TreeSet<String> fields() {
        TreeSet<String> seen = new TreeSet<>();
        for (Field field : ShrinkForge.class.getDeclaredFields()) {
            if (!Modifier.isPrivate(field.getModifiers())) {
                seen.add(field.getName());
            }
        }
        return seen;
    }

    private static TreeSet<String> methods() {
        TreeSet<String> seen = new TreeSet<>();
        for (Method method : ShrinkForge.class.getDeclaredMethods()) {
            if (!Modifier.isPrivate(method.getModifiers())) {
                seen.add(method.getReturnType() + " " + method.getName() + Arrays.toString(method.getParameterTypes()));
            }
        }
        return seen;
    }

    private static TreeSet<String> constructors() {
        TreeSet<String> seen = new TreeSet<>();
        for (Constructor<?> constructor : ShrinkForge.class.getDeclaredConstructors()) {
            if (!Modifier.isPrivate(constructor.getModifiers())) {
                seen.add(Arrays.toString(constructor.getParameterTypes()));
            }
        }
        return seen;
    }
}
