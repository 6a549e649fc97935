import java.lang.reflect.Constructor;
import java.lang.reflect.Field;
import java.lang.reflect.Method;
import java.lang.reflect.Modifier;
import java.util.Set;
import java.util.TreeSet;

/** The public face, and rule 1 of LANGUAGE.md: nothing else can be seen from outside. */
public final class FaceTest {
    private static final String[] FACE = {
        "void shape(int,int,int)",
        "void put(int,int,int,long)",
        "boolean drop(int,int,int)",
        "long at(int,int,int)",
        "int size(int)",
        "int multiply(int,int,int,int,int,int)",
        "int add(int,int,int,int)",
        "int each(int,int,int,int)",
        "int transpose(int,int)",
        "int select(int,int,int,long)",
        "long reduce(int,int)",
        "int levels(int,int,int)",
        "int paths(int,int)",
        "int triangles(int)",
        "int components(int,int)",
    };

    public static void main(String[] args) {
        Due due = new Due();
        due.is("public and final", SemiringDesk.class.getModifiers(), Modifier.PUBLIC | Modifier.FINAL);
        Set<String> seen = new TreeSet<>();
        Set<String> hidden = new TreeSet<>();
        for (Method m : SemiringDesk.class.getDeclaredMethods()) {
            boolean isPublic = m.getModifiers() == Modifier.PUBLIC;
            if (isPublic) {
                seen.add(signature(m));
            } else {
                hidden.add(m.getName());
                due.is(m + " is private", m.isSynthetic() || Modifier.isPrivate(m.getModifiers()), true);
            }
        }
        due.is("the methods", seen.toString(), new TreeSet<>(Set.of(FACE)).toString());
        for (String method : FACE) {
            String name = method.substring(method.indexOf(' ') + 1, method.indexOf('('));
            due.is("a private method bears the name " + name, hidden.contains(name), false);
        }
        for (Field f : SemiringDesk.class.getDeclaredFields()) {
            due.is(f + " is private", f.isSynthetic() || Modifier.isPrivate(f.getModifiers()), true);
            due.is(f + " is final if it is static",
                    !Modifier.isStatic(f.getModifiers()) || Modifier.isFinal(f.getModifiers()), true);
        }
        Constructor<?>[] constructors = SemiringDesk.class.getDeclaredConstructors();
        due.is("how many constructors", constructors.length, 1);
        due.is("the constructor", constructors[0].toString(), "public SemiringDesk()");
        due.end();
    }

    private static String signature(Method m) {
        StringBuilder text = new StringBuilder();
        text.append(m.getReturnType()).append(' ').append(m.getName()).append('(');
        for (int p = 0; p < m.getParameterCount(); p++) {
            text.append(p == 0 ? "" : ",").append(m.getParameterTypes()[p]);
        }
        return text.append(')').toString();
    }
}
