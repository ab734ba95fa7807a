import java.lang.reflect.Constructor;
import java.lang.reflect.Field;
import java.lang.reflect.Method;
import java.lang.reflect.Modifier;
import java.util.Arrays;
import java.util.Set;
import java.util.TreeSet;

/** The public face: just the constants, constructors and methods of the document. */
final class FaceTest {
    private static final String NO_SUCH = " java.util.NoSuchElementException";

    public static void main(String[] args) {
        Check.same("modifiers", Modifier.toString(TwinArray.class.getModifiers()), "public final");
        Check.same("methods", publicMethods().toString(), dueMethods().toString());
        Check.same("constructors", Arrays.toString(TwinArray.class.getDeclaredConstructors()), "[public TwinArray()]");
        Check.same("NONE", TwinArray.NONE, -1);
        privateButForNone();
        Check.end();
    }

    private static Set<String> publicMethods() {
        Set<String> names = new TreeSet<>();
        for (Method m : TwinArray.class.getDeclaredMethods()) {
            if (!Modifier.isPrivate(m.getModifiers())) {
                names.add(Modifier.toString(m.getModifiers()) + " " + m.getReturnType() + " " + m.getName()
                    + Arrays.toString(m.getParameterTypes()) + thrown(m));
            }
        }
        return names;
    }

    private static String thrown(Method m) {
        StringBuilder s = new StringBuilder();
        for (Class<?> c : m.getExceptionTypes()) {
            s.append(' ').append(c.getName());
        }
        return s.toString();
    }

    private static Set<String> dueMethods() {
        return new TreeSet<>(Set.of(
            "public int write[int, int, int]", "public int read[int, int]",
            "public int ticket[int]" + NO_SUCH, "public int value[int]" + NO_SUCH,
            "public int step[int]", "public int arrive[int]", "public void cut[boolean]",
            "public boolean crash[int]", "public boolean restart[int]", "public boolean pair[]",
            "public boolean takeOver[int]", "public boolean moveOwner[int]", "public boolean flush[int]",
            "public boolean lose[int]", "public boolean replace[int]", "public int rebuild[int]",
            "public int late[int]", "public int lates[]", "public int parityGood[int]",
            "public int onDisk[int, int]" + NO_SUCH, "public int keyOf[int]", "public int state[int, int]"));
    }

    private static void privateButForNone() {
        for (Field f : TwinArray.class.getDeclaredFields()) {
            boolean isNone = f.getName().equals("NONE");
            Check.yes("the field " + f.getName(), isNone || Modifier.isPrivate(f.getModifiers()));
        }
        for (Class<?> inside : TwinArray.class.getDeclaredClasses()) {
            Check.yes("static: " + inside.getName(), Modifier.isStatic(inside.getModifiers()));
            Check.no("public: " + inside.getName(), Modifier.isPublic(inside.getModifiers()));
        }
    }
}
