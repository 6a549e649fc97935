import java.lang.reflect.Constructor;
import java.lang.reflect.Field;
import java.lang.reflect.Method;
import java.lang.reflect.Modifier;
import java.util.Set;
import java.util.TreeSet;

/**
 * The public face, with the exceptions that each call names, in their order; and rule 1 of
 * LANGUAGE.md: nothing else can be seen from outside.
 */
public final class FaceTest {
    private static final String ARGUMENT = " IllegalArgumentException";
    private static final String STATE = " IllegalStateException";
    private static final String RANGE = " UnsupportedOperationException";
    private static final String NONE = " NoSuchElementException";
    private static final String[] FACE = {
        "void shape(int,int,int)" + ARGUMENT,
        "void put(int,int,int,long)" + ARGUMENT,
        "boolean drop(int,int,int)" + ARGUMENT,
        "long at(int,int,int)" + ARGUMENT + NONE,
        "int size(int)" + ARGUMENT,
        "int multiply(int,int,int,int,int,int)" + ARGUMENT + STATE + RANGE,
        "int add(int,int,int,int)" + ARGUMENT + STATE + RANGE,
        "int each(int,int,int,int)" + ARGUMENT + STATE + RANGE,
        "int transpose(int,int)" + ARGUMENT,
        "int select(int,int,int,long)" + ARGUMENT,
        "long reduce(int,int)" + ARGUMENT + NONE + RANGE,
        "int levels(int,int,int)" + ARGUMENT + STATE + NONE,
        "int paths(int,int)" + ARGUMENT + STATE + RANGE + NONE,
        "int triangles(int)" + ARGUMENT + STATE,
        "int components(int,int)" + ARGUMENT + STATE,
    };

    public static void main(String[] args) {
        Due due = new Due();
        due.is("public and final", SemiringDesk.class.getModifiers(), Modifier.PUBLIC | Modifier.FINAL);
        Set<String> seen = new TreeSet<>();
        Set<String> hidden = new TreeSet<>();
        for (Method m : SemiringDesk.class.getDeclaredMethods()) {
            boolean isPublic = m.getModifiers() == Modifier.PUBLIC;
            if (isPublic) {
                seen.add(signature(m));
            } else {
                hidden.add(m.getName());
                due.is(m + " is private", m.isSynthetic() || Modifier.isPrivate(m.getModifiers()), true);
            }
        }
        due.is("the methods", seen.toString(), new TreeSet<>(Set.of(FACE)).toString());
        for (String method : FACE) {
            String name = method.substring(method.indexOf(' ') + 1, method.indexOf('('));
            due.is("a private method bears the name " + name, hidden.contains(name), false);
        }
        for (Field f : SemiringDesk.class.getDeclaredFields()) {
            due.is(f + " is private", f.isSynthetic() || Modifier.isPrivate(f.getModifiers()), true);
            due.is(f + " is final if it is static",
                    !Modifier.isStatic(f.getModifiers()) || Modifier.isFinal(f.getModifiers()), true);
        }
        for (Class<?> c : SemiringDesk.class.getDeclaredClasses()) {
            due.is(c + " is static", Modifier.isStatic(c.getModifiers()), true);
            due.is(c + " can't be seen", c.getModifiers() & (Modifier.PUBLIC | Modifier.PROTECTED), 0);
        }
        Constructor<?>[] constructors = SemiringDesk.class.getDeclaredConstructors();
        due.is("how many constructors", constructors.length, 1);
        due.is("the constructor", constructors[0].toString(), "public SemiringDesk()");
        due.end();
    }

    private static String signature(Method m) {
        StringBuilder text = new StringBuilder();
        text.append(m.getReturnType()).append(' ').append(m.getName()).append('(');
        for (int p = 0; p < m.getParameterCount(); p++) {
            text.append(p == 0 ? "" : ",").append(m.getParameterTypes()[p]);
        }
        text.append(')');
        for (Class<?> thrown : m.getExceptionTypes()) {
            text.append(' ').append(thrown.getSimpleName());
        }
        return text.toString();
    }
}
