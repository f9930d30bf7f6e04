import java.lang.reflect.Constructor;
import java.lang.reflect.Field;
import java.lang.reflect.Method;
import java.lang.reflect.Modifier;
import java.util.Arrays;
import java.util.HashSet;
import java.util.Set;
import java.util.TreeSet;

/** The public face, and the rules of LANGUAGE.md that can be seen on the compiled class; LanguageTest has those of the source. */
public final class FaceTest {
    private static final Set<String> FACE = new TreeSet<>(Set.of(
        "int place(int, int, int)", "int fetch(int, int, int, int)", "int store(int, int, int, int)",
        "long read(int, int, int)", "int write(int, int, int, int)", "int restrict(int, int, int, int)",
        "int clear(int, int)", "int checkpoint()", "int power(int)", "boolean crash()", "int start(int)",
        "boolean isUp()", "int key(int, int)", "long word(int, int)", "int dirty()", "int disk(int, int)",
        "int writes()", "int commits()"));

    private FaceTest() {
    }

    public static void main(String[] args) {
        Due.test("the public face", "public final class CapStore", FaceTest::isPublicAndFinal);
        Due.test("the public face", "public CapStore();", FaceTest::constructors);
        Due.test("the public face", "place .. commits", FaceTest::methods);
        Due.test("the public face", "place .. commits", FaceTest::nothingInherited);
        Due.test("LANGUAGE.md, rule 1", "No private method bears the name of a public one", FaceTest::privateNames);
        Due.test("LANGUAGE.md, rules 1 and 5", "no other public, protected or package-visible member", FaceTest::fields);
        Due.test("LANGUAGE.md, rules 1 and 2", "the classes inside it, which are private or package-visible and static", FaceTest::classesInside);
        Due.test("LANGUAGE.md, rule 11", "A method takes at most seven parameters", FaceTest::parameters);
        Due.end();
    }

    private static void isPublicAndFinal() {
        Due.is("whether the class is public and final",
            CapStore.class.getModifiers() == (Modifier.PUBLIC | Modifier.FINAL), true);
    }

    private static void constructors() {
        Constructor<?>[] all = CapStore.class.getDeclaredConstructors();
        Due.is("how many constructors", all.length, 1);
        Due.is("whether it is public, without parameters",
            Modifier.isPublic(all[0].getModifiers()) && all[0].getParameterCount() == 0, true);
    }

    private static Set<Method> open() {
        Set<Method> open = new HashSet<>();
        for (Method m : CapStore.class.getDeclaredMethods()) {
            if (!Modifier.isPrivate(m.getModifiers())) {
                open.add(m);
            }
        }
        return open;
    }

    private static void methods() {
        Set<String> texts = new TreeSet<>();
        for (Method m : open()) {
            texts.add(text(m));
            Due.is("whether " + m.getName() + " is public and nothing else", m.getModifiers() == Modifier.PUBLIC, true);
            Due.is("exceptions that " + m.getName() + " names", m.getExceptionTypes().length, 0);
        }
        Due.is("how many methods", open().size(), 18);
        Due.is("whether " + texts + " is the face", texts.equals(FACE), true);
    }

    /** A class above it, or an interface, would bring public members of its own. */
    private static void nothingInherited() {
        Due.is("whether the class above is Object", CapStore.class.getSuperclass() == Object.class, true);
        Due.is("how many interfaces", CapStore.class.getInterfaces().length, 0);
        Due.is("public methods beside those of Object", CapStore.class.getMethods().length - Object.class.getMethods().length, 18);
        Due.is("public fields", CapStore.class.getFields().length, 0);
        Due.is("public classes inside", CapStore.class.getClasses().length, 0);
    }

    private static void privateNames() {
        Set<String> openNames = new TreeSet<>();
        open().forEach(m -> openNames.add(m.getName()));
        for (Method m : CapStore.class.getDeclaredMethods()) {
            boolean hidden = Modifier.isPrivate(m.getModifiers());
            Due.is("whether private " + m.getName() + " bears a public name", hidden && openNames.contains(m.getName()), false);
        }
    }

    private static void classesInside() {
        Class<?>[] inside = CapStore.class.getDeclaredClasses();
        Due.is("whether there are at most eleven", inside.length <= 11, true);
        for (Class<?> c : inside) {
            int m = c.getModifiers();
            Due.is("whether " + c.getName() + " is hidden", Modifier.isPublic(m) || Modifier.isProtected(m), false);
            Due.is("whether " + c.getName() + " is static", Modifier.isStatic(m), true);
        }
    }

    private static void parameters() {
        for (Method m : CapStore.class.getDeclaredMethods()) {
            Due.is("whether " + m.getName() + " takes at most seven", m.getParameterCount() <= 7, true);
        }
    }

    private static String text(Method m) {
        String types = Arrays.toString(m.getParameterTypes());
        return m.getReturnType() + " " + m.getName() + "(" + types.substring(1, types.length() - 1) + ")";
    }

    private static void fields() {
        for (Field f : CapStore.class.getDeclaredFields()) {
            int m = f.getModifiers();
            Due.is("whether field " + f.getName() + " is private", Modifier.isPrivate(m), true);
            Due.is("whether field " + f.getName() + " is final if static", Modifier.isFinal(m) || !Modifier.isStatic(m), true);
        }
    }
}
