import java.lang.reflect.Constructor;
import java.lang.reflect.Field;
import java.lang.reflect.Method;
import java.lang.reflect.Modifier;
import java.util.Arrays;
import java.util.NoSuchElementException;
import java.util.TreeSet;

/** The class has the document's face and nothing else that can be seen from outside. */
public final class FaceTest {
    private static final String[] FACE = {
        "int feed(int, int, int, int, int)", "boolean end(int)", "int office()", "int fault()",
        "int machine(int, int)", "int phrase(int, int)", "int owes(int, int)", "int now(int)",
        "int write(int, int)", "int sit(int)", "int leave(int)", "int ribbon(int, int)", "int clear()",
        "int days(int)", "int undo()", "int comes(int)", "int comesAt(int)", "int silent()", "int ways()",
        "int waysAt(int)", "int ask()", "int lacks()", "int faint()", "int look()", "int ship()",
        "int part(int, int)", "int line(int)", "int byteAt(int)", "int drawn(int, int)",
        "int odds(int, int, int)", "int book(int)", "int told(int)", "int sentence()", "int said(int)",
        "boolean image(int)", "boolean restore(int)", "int count(int)"
    };

    private static final Checks CHECKS = new Checks();

    public static void main(String[] args) {
        Class<?> c = KeyLetters.class;
        CHECKS.due("the class is public and final", Modifier.isPublic(c.getModifiers())
                && Modifier.isFinal(c.getModifiers()), true);
        CHECKS.due("NONE", KeyLetters.NONE, -1);
        checkMethods(c);
        checkFields(c);
        Constructor<?>[] constructors = c.getDeclaredConstructors();
        CHECKS.due("constructors", constructors.length, 1);
        CHECKS.due("the constructor is public and bare", Modifier.isPublic(constructors[0].getModifiers())
                && constructors[0].getParameterCount() == 0, true);
        int classes = 1;
        for (Class<?> inner : c.getDeclaredClasses()) {
            classes++;
            CHECKS.due(inner + " is static and hidden", Modifier.isStatic(inner.getModifiers())
                    && !Modifier.isPublic(inner.getModifiers()) && !Modifier.isProtected(inner.getModifiers()), true);
            CHECKS.due("fields of " + inner, ownFields(inner) <= 20, true);
            checkNoFaceNames(inner);
        }
        CHECKS.due("classes in the file", classes <= 12, true);
        CHECKS.due("fields of the class", ownFields(c) <= 20, true);
        CHECKS.end("FaceTest");
    }

    private static void checkMethods(Class<?> c) {
        TreeSet<String> face = new TreeSet<>(Arrays.asList(FACE));
        TreeSet<String> seen = new TreeSet<>();
        TreeSet<String> names = faceNames();
        for (Method m : c.getDeclaredMethods()) {
            if (Modifier.isPrivate(m.getModifiers())) {
                CHECKS.due("a hidden method bears a name of the face: " + m, names.contains(m.getName()), false);
                continue;
            }
            seen.add(told(m));
            CHECKS.due("public and no static: " + m, Modifier.isPublic(m.getModifiers())
                    && !Modifier.isStatic(m.getModifiers()), true);
            boolean mayThrow = m.getName().equals("machine") || m.getName().equals("part");
            CHECKS.due("throws told of " + m, m.getExceptionTypes().length, mayThrow ? 1 : 0);
            if (mayThrow && m.getExceptionTypes().length == 1) {
                CHECKS.due("what " + m + " throws", m.getExceptionTypes()[0] == NoSuchElementException.class, true);
            }
        }
        if (!seen.equals(face)) {
            CHECKS.due("the methods are those of the face: " + seen, 0, 1);
        }
    }

    private static TreeSet<String> faceNames() {
        TreeSet<String> names = new TreeSet<>();
        for (String told : FACE) {
            names.add(told.substring(told.indexOf(' ') + 1, told.indexOf('(')));
        }
        return names;
    }

    private static void checkNoFaceNames(Class<?> inner) {
        TreeSet<String> names = faceNames();
        for (Method m : inner.getDeclaredMethods()) {
            CHECKS.due("a hidden method bears a name of the face: " + m, names.contains(m.getName()), false);
        }
    }

    private static void checkFields(Class<?> c) {
        for (Field f : c.getDeclaredFields()) {
            boolean isNone = f.getName().equals("NONE") && Modifier.isPublic(f.getModifiers())
                    && Modifier.isStatic(f.getModifiers()) && Modifier.isFinal(f.getModifiers());
            CHECKS.due("hidden: " + f, isNone || Modifier.isPrivate(f.getModifiers()), true);
        }
    }

    private static int ownFields(Class<?> c) {
        int fields = 0;
        for (Field f : c.getDeclaredFields()) {
            if (!Modifier.isStatic(f.getModifiers())) {
                fields++;
            }
        }
        return fields;
    }

    private static String told(Method m) {
        StringBuilder text = new StringBuilder(m.getReturnType().getName());
        text.append(' ').append(m.getName()).append('(');
        for (int i = 0; i < m.getParameterCount(); i++) {
            text.append(i == 0 ? "" : ", ").append(m.getParameterTypes()[i].getName());
        }
        return text.append(')').toString();
    }
}
