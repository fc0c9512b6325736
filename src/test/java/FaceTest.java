import java.lang.reflect.Constructor;
import java.lang.reflect.Field;
import java.lang.reflect.Method;
import java.lang.reflect.Modifier;
import java.util.Arrays;
import java.util.Set;
import java.util.TreeSet;

/** The public face is the document's, and nothing else of the class is seen from outside. */
final class FaceTest {
    private static final String[] FACE = {
        "int fraction(long,long) ArithmeticException", "int apply(int,int,int)", "int compare(int,int)",
        "long numberOf(int,int)", "double near(int)", "int step(int,int,int)",
        "int three(int,int,int,int)", "int thing(int,int)", "int measure(int,int,int,int)",
        "int holds(int,int,int,int,int)", "int polygon()", "int corner(int,int,int)",
        "long polygonOf(int,int)", "int place(int,int)", "int around(int,int,int)",
        "int term(long,int)", "int combine(int,int,int)", "long coefficient(int,int,int,int)",
        "int same(int,int)", "int value(int,int,int,int)", "long tile(int,int,long)",
        "long rows(int,int,long)", "int list(int,int)", "int count(int)"};

    public static void main(String[] args) throws Exception {
        Class<?> face = PlainGeometry.class;
        Due.is("public final", Modifier.isPublic(face.getModifiers()) && Modifier.isFinal(face.getModifiers()));
        Set<String> seen = new TreeSet<>();
        Set<String> publicNames = new TreeSet<>();
        for (Method m : face.getDeclaredMethods()) {
            if (!Modifier.isPrivate(m.getModifiers()) && !m.isSynthetic()) {
                seen.add(tell(m));
                publicNames.add(m.getName());
                Due.is(m + " is public, of an object", Modifier.isPublic(m.getModifiers()) && !Modifier.isStatic(m.getModifiers()));
            }
        }
        Due.is("methods " + seen, seen.equals(new TreeSet<>(Arrays.asList(FACE))));
        for (Field f : face.getDeclaredFields()) {
            boolean isNone = f.getName().equals("NONE");
            Due.is(f + " is private but for NONE", isNone != Modifier.isPrivate(f.getModifiers()));
        }
        Field none = face.getDeclaredField("NONE");
        Due.is("NONE", none.getInt(null), -1);
        Due.is("NONE is a public constant", none.getModifiers(), Modifier.PUBLIC | Modifier.STATIC | Modifier.FINAL);
        Constructor<?>[] made = face.getDeclaredConstructors();
        Due.is("one constructor", made.length, 1);
        Due.is("it is public, of nothing", Modifier.isPublic(made[0].getModifiers()) && made[0].getParameterCount() == 0);
        int classes = 1;
        for (Class<?> inner : face.getDeclaredClasses()) {
            classes++;
            Due.is(inner + " is static, not public", Modifier.isStatic(inner.getModifiers()) && !Modifier.isPublic(inner.getModifiers()));
            for (Method m : inner.getDeclaredMethods()) {
                Due.is(m + " has no name of the face", !publicNames.contains(m.getName()));
            }
            Due.is(inner + " has some twenty fields", inner.getDeclaredFields().length < 26);
        }
        Due.is("some twelve classes: " + classes, classes <= 12);
        for (Method m : face.getDeclaredMethods()) {
            Due.is(m + " has no name of the face", !Modifier.isPrivate(m.getModifiers()) || !publicNames.contains(m.getName()));
        }
        Due.end();
    }

    private static String tell(Method m) {
        StringBuilder told = new StringBuilder(m.getReturnType().getName() + " " + m.getName() + "(");
        for (int i = 0; i < m.getParameterCount(); i++) {
            told.append(i == 0 ? "" : ",").append(m.getParameterTypes()[i].getName());
        }
        told.append(")");
        for (Class<?> thrown : m.getExceptionTypes()) {
            told.append(" ").append(thrown.getSimpleName());
        }
        return told.toString();
    }
}
