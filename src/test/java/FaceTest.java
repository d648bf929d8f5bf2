import java.lang.reflect.Constructor;
import java.lang.reflect.Field;
import java.lang.reflect.Method;
import java.lang.reflect.Modifier;
import java.util.Arrays;
import java.util.Set;
import java.util.TreeSet;

/** The public face: just the document's members, all others private. */
public final class FaceTest {
    private static final String[] FACE = {
        "int question(int,int,int,int,int)", "boolean passage(int,int)", "boolean gives(int,int,boolean)",
        "boolean bound(int,int,int)", "boolean profile(int,int)", "boolean rest(int)", "int term()",
        "boolean use(int)", "int rests(int)", "int look(int,int)", "int best()", "int why()",
        "int versions(int)", "int second()", "int order(int)", "int place(int)", "int told(int,int)",
        "int count(int)",
    };

    public static void main(String[] args) {
        Class<?> face = PaperSetter.class;
        int modifiers = face.getModifiers();
        Check.due("public final class", Modifier.isPublic(modifiers) && Modifier.isFinal(modifiers), true);
        Check.due("NONE", PaperSetter.NONE, -1);
        Check.due("methods", methods(face).toString(), new TreeSet<>(Arrays.asList(FACE)).toString());
        Check.due("fields", fields(face).toString(), "[NONE]");
        Constructor<?>[] constructors = face.getDeclaredConstructors();
        Check.due("constructors", constructors.length, 1);
        Check.due("public constructor", Modifier.isPublic(constructors[0].getModifiers()), true);
        Check.due("constructor's parameters", constructors[0].getParameterCount(), 0);
        Check.end();
    }

    private static Set<String> methods(Class<?> face) {
        Set<String> seen = new TreeSet<>();
        for (Method m : face.getDeclaredMethods()) {
            if (!Modifier.isPrivate(m.getModifiers()) && !m.isSynthetic()) {
                StringBuilder parameters = new StringBuilder();
                for (Class<?> p : m.getParameterTypes()) {
                    parameters.append(parameters.length() == 0 ? "" : ",").append(p.getName());
                }
                seen.add(m.getReturnType().getName() + " " + m.getName() + "(" + parameters + ")");
            }
        }
        return seen;
    }

    private static Set<String> fields(Class<?> face) {
        Set<String> seen = new TreeSet<>();
        for (Field f : face.getDeclaredFields()) {
            if (!Modifier.isPrivate(f.getModifiers()) && !f.isSynthetic()) {
                seen.add(f.getName());
            }
        }
        return seen;
    }
}
