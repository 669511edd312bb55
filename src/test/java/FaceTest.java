import java.lang.reflect.Constructor;
import java.lang.reflect.Field;
import java.lang.reflect.Method;
import java.lang.reflect.Modifier;
import java.util.Arrays;
import java.util.Set;
import java.util.TreeSet;

/** The class shows the document's face and nothing else. */
public final class FaceTest {
    private static final String[] FACE = {
        "boolean put(int, int, int) throws IndexOutOfBoundsException, IllegalArgumentException",
        "boolean solves(int, int, int)",
        "boolean whole()",
        "int at(int, int) throws IndexOutOfBoundsException",
        "int count(int)",
        "int equation() throws IllegalStateException",
        "int free(int)",
        "int inBox(int) throws IllegalArgumentException",
        "int rank()",
        "int solutions()",
        "long base(int, int) throws IndexOutOfBoundsException",
        "long direction(int, int, int) throws IndexOutOfBoundsException, IllegalArgumentException",
        "long least(int) throws IndexOutOfBoundsException, IllegalStateException",
        "long nearest(int, int) throws IndexOutOfBoundsException, IllegalArgumentException",
        "long plain(int, int) throws IndexOutOfBoundsException, IllegalStateException, IllegalArgumentException",
        "long squares(int) throws IllegalArgumentException",
        "void clear()",
    };

    public static void main(String[] args) {
        Set<String> want = new TreeSet<>(Arrays.asList(FACE));
        Set<String> got = new TreeSet<>();
        Set<String> hidden = new TreeSet<>();
        boolean right = isPublicAndFinal() && hasTheOneConstructor() && showsNoClass();
        for (Method m : TriangularSystems.class.getDeclaredMethods()) {
            if (Modifier.isPrivate(m.getModifiers())) {
                hidden.add(m.getName());
            } else {
                got.add(told(m));
            }
        }
        for (Method m : TriangularSystems.class.getMethods()) {
            right &= !hidden.contains(m.getName());
        }
        for (Field f : TriangularSystems.class.getDeclaredFields()) {
            right &= Modifier.isPrivate(f.getModifiers());
        }
        right &= got.equals(want);
        System.out.println(right ? "the face is the document's" : "the face is not the document's: " + got);
        if (!right) {
            System.exit(1);
        }
    }

    private static boolean isPublicAndFinal() {
        int modifiers = TriangularSystems.class.getModifiers();
        return Modifier.isPublic(modifiers) && Modifier.isFinal(modifiers);
    }

    private static boolean hasTheOneConstructor() {
        Constructor<?>[] all = TriangularSystems.class.getDeclaredConstructors();
        return all.length == 1 && Modifier.isPublic(all[0].getModifiers())
                && names(all[0].getParameterTypes()).equals("int") && all[0].getExceptionTypes().length == 0;
    }

    /** The classes inside are static, and not for others to use. */
    private static boolean showsNoClass() {
        for (Class<?> inside : TriangularSystems.class.getDeclaredClasses()) {
            int modifiers = inside.getModifiers();
            if (Modifier.isPublic(modifiers) || Modifier.isProtected(modifiers) || !Modifier.isStatic(modifiers)) {
                return false;
            }
        }
        return true;
    }

    private static String told(Method m) {
        String text = m.getReturnType().getSimpleName() + " " + m.getName() + "(" + names(m.getParameterTypes()) + ")";
        return m.getExceptionTypes().length == 0 ? text : text + " throws " + names(m.getExceptionTypes());
    }

    private static String names(Class<?>[] types) {
        StringBuilder told = new StringBuilder();
        for (Class<?> type : types) {
            told.append(told.length() == 0 ? "" : ", ").append(type.getSimpleName());
        }
        return told.toString();
    }
}
