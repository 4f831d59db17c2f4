import java.lang.reflect.Constructor;
import java.lang.reflect.Field;
import java.lang.reflect.Member;
import java.lang.reflect.Method;
import java.lang.reflect.Modifier;
import java.util.Arrays;
import java.util.TreeSet;

/** The class's face is the document's, and nothing more. */
public final class FaceTest {
    private static final String[] FACE = {
        "void poke(int, int, int) IllegalArgumentException",
        "int peek(int) IllegalArgumentException",
        "void set(int, int) IllegalArgumentException",
        "int get(int) IllegalArgumentException",
        "int input(int) IllegalArgumentException IllegalStateException",
        "int request(int) IllegalArgumentException IllegalStateException",
        "void room(int) IllegalArgumentException",
        "int run(int) IllegalArgumentException",
        "int output(int)",
        "int count(int) IllegalArgumentException",
    };

    public static void main(String[] args) {
        Class<?> face = BlockCache.class;
        Check.same("public and final", face.getModifiers() & (Modifier.PUBLIC | Modifier.FINAL),
            Modifier.PUBLIC | Modifier.FINAL);
        Check.sameText("methods", methods(face).toString(), new TreeSet<>(Arrays.asList(FACE)).toString());
        Constructor<?>[] constructors = face.getDeclaredConstructors();
        Check.same("constructors", constructors.length, 1);
        Check.same("its parameters", constructors[0].getParameterCount(), 0);
        Check.same("it is public", constructors[0].getModifiers(), Modifier.PUBLIC);
        fields(face);
        classesInside(face);
        Check.finish();
    }

    private static TreeSet<String> methods(Class<?> face) {
        TreeSet<String> seen = new TreeSet<>();
        for (Method m : face.getDeclaredMethods()) {
            if (!isHidden(m)) {
                seen.add(told(m));
            }
        }
        return seen;
    }

    private static String told(Method m) {
        StringBuilder text = new StringBuilder(m.getReturnType().getSimpleName());
        text.append(' ').append(m.getName()).append('(');
        for (int i = 0; i < m.getParameterCount(); i++) {
            text.append(i == 0 ? "" : ", ").append(m.getParameterTypes()[i].getSimpleName());
        }
        text.append(')');
        for (Class<?> e : m.getExceptionTypes()) {
            text.append(' ').append(e.getSimpleName());
        }
        return text.toString();
    }

    private static void fields(Class<?> face) {
        for (Field f : face.getDeclaredFields()) {
            if (!isHidden(f)) {
                Check.sameText("the one constant", f.getName(), "NONE");
                Check.same("it is a public constant", f.getModifiers(),
                    Modifier.PUBLIC | Modifier.STATIC | Modifier.FINAL);
            }
        }
    }

    private static void classesInside(Class<?> face) {
        TreeSet<String> names = new TreeSet<>();
        for (String told : FACE) {
            names.add(told.substring(told.indexOf(' ') + 1, told.indexOf('(')));
        }
        for (Class<?> c : face.getDeclaredClasses()) {
            Check.same(c + " is static", c.getModifiers() & Modifier.STATIC, Modifier.STATIC);
            Check.same(c + " is not public", c.getModifiers() & (Modifier.PUBLIC | Modifier.PROTECTED), 0);
            for (Method m : c.getDeclaredMethods()) {
                Check.same(m + " has a name of the face", names.contains(m.getName()) ? 1 : 0, 0);
            }
            for (Field f : c.getDeclaredFields()) {
                boolean free = Modifier.isStatic(f.getModifiers()) && !Modifier.isFinal(f.getModifiers());
                Check.same(f + " is static and not final", free ? 1 : 0, 0);
            }
        }
    }

    private static boolean isHidden(Member m) {
        return m.isSynthetic() || Modifier.isPrivate(m.getModifiers());
    }
}
