import java.lang.reflect.Constructor;
import java.lang.reflect.Field;
import java.lang.reflect.Method;
import java.lang.reflect.Modifier;
import java.util.Arrays;
import java.util.Set;
import java.util.TreeSet;

/** The public face, and the rules of LANGUAGE.md that can be seen on the compiled class. */
public final class FaceTest {
    private static final Set<String> FACE = new TreeSet<>(Set.of(
        "int place(int, int, int)", "int fetch(int, int, int, int)", "int store(int, int, int, int)",
        "long read(int, int, int)", "int write(int, int, int, int)", "int restrict(int, int, int, int)",
        "int clear(int, int)", "int checkpoint()", "int power(int)", "boolean crash()", "int start(int)",
        "boolean isUp()", "int key(int, int)", "long word(int, int)", "int dirty()", "int disk(int, int)",
        "int writes()", "int commits()"));

    private FaceTest() {
    }

    public static void main(String[] args) {
        Due.test("the public face", "public final class CapStore", FaceTest::isPublicAndFinal);
        Due.test("the public face", "public CapStore();", FaceTest::constructors);
        Due.test("the public face", "place .. commits", FaceTest::methods);
        Due.test("LANGUAGE.md, rules 1 and 5", "no other public, protected or package-visible member", FaceTest::fields);
        Due.end();
    }

    private static void isPublicAndFinal() {
        Due.is("whether the class is public and final",
            CapStore.class.getModifiers() == (Modifier.PUBLIC | Modifier.FINAL), true);
    }

    private static void constructors() {
        Constructor<?>[] all = CapStore.class.getDeclaredConstructors();
        Due.is("how many constructors", all.length, 1);
        Due.is("whether it is public, without parameters",
            Modifier.isPublic(all[0].getModifiers()) && all[0].getParameterCount() == 0, true);
    }

    private static void methods() {
        Set<String> open = new TreeSet<>();
        Set<String> openNames = new TreeSet<>();
        for (Method m : CapStore.class.getDeclaredMethods()) {
            if (!Modifier.isPrivate(m.getModifiers())) {
                open.add(text(m));
                openNames.add(m.getName());
            }
        }
        Due.is("whether " + open + " is the face", open.equals(FACE), true);
        for (Method m : CapStore.class.getDeclaredMethods()) {
            boolean hidden = Modifier.isPrivate(m.getModifiers());
            Due.is("whether private " + m.getName() + " bears a public name", hidden && openNames.contains(m.getName()), false);
        }
    }

    private static String text(Method m) {
        String types = Arrays.toString(m.getParameterTypes());
        return m.getReturnType() + " " + m.getName() + "(" + types.substring(1, types.length() - 1) + ")";
    }

    private static void fields() {
        for (Field f : CapStore.class.getDeclaredFields()) {
            int m = f.getModifiers();
            Due.is("whether field " + f.getName() + " is private", Modifier.isPrivate(m), true);
            Due.is("whether field " + f.getName() + " is final if static", Modifier.isFinal(m) || !Modifier.isStatic(m), true);
        }
    }
}
