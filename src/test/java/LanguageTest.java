import java.io.IOException;
import java.lang.reflect.Field;
import java.lang.reflect.Method;
import java.lang.reflect.Modifier;
import java.nio.file.Files;
import java.nio.file.Path;
import java.util.ArrayList;
import java.util.List;
import java.util.Set;
import java.util.TreeSet;
import java.util.regex.Matcher;
import java.util.regex.Pattern;

/** LANGUAGE.md: what of its rules can be seen from the class's members and from the words of its source. */
public final class LanguageTest {
    private static final int MOST_CLASSES = 12;
    private static final int MOST_FIELDS = 20;
    private static final int MOST_PARAMETERS = 7;
    private static final int MOST_LINES_OF_A_METHOD = 60;
    /** Rules 2, 3, 4, 6, 12 and 13. */
    private static final String[] NOT_ALLOWED = {
        "\\b(throw|throws|try|catch|finally|synchronized|assert|volatile|transient|native|strictfp|package)\\b",
        "->", "::", "\\w+Exact\\b", "\\bstatic\\s*\\{", "\\bnew\\s+\\w+\\s*\\([^)]*\\)\\s*\\{",
        "\\b(equals|hashCode|toString|Object|Thread|Random|Runtime|Throwable|Exception)\\b",
        "\\bSystem\\.(?!arraycopy\\b)", "\\bMath\\.random\\b", "\\bimport\\s+(?!java\\.util\\.(Arrays|ArrayList|List);)",
    };
    private static final String[] CONSTANTS = {
        "int", "long", "boolean", "char", "String", "int[]", "long[]", "char[]", "byte[]",
    };
    private static final Pattern METHOD_BEGINS = Pattern.compile("(    |        )\\S.*\\) \\{");

    public static void main(String[] args) throws IOException {
        String text = Files.readString(Path.of("src/main/java/PaperSetter.java"));
        for (int i = 0; i < text.length(); i++) {
            Check.due("sign " + i + " is one of 1 to 127", text.charAt(i) >= 1 && text.charAt(i) <= 127, true);
        }
        wordsAreAllowed(withoutComments(text));
        methodsAreShort(text);
        List<Class<?>> classes = allClasses();
        Check.due("few classes", classes.size() <= MOST_CLASSES, true);
        for (Class<?> one : classes) {
            classIsAllowed(one);
            fieldsAreAllowed(one);
            methodsAreAllowed(one);
        }
        Check.end();
    }

    private static String withoutComments(String text) {
        return text.replaceAll("(?s)/\\*.*?\\*/", " ").replaceAll("//[^\n]*", " ");
    }

    private static void wordsAreAllowed(String source) {
        for (String notAllowed : NOT_ALLOWED) {
            Matcher found = Pattern.compile(notAllowed).matcher(source);
            String seen = found.find() ? found.group() : "";
            Check.due("rule against " + notAllowed, seen, "");
        }
    }

    /** A member's brace stands as far in as the line that it ends. */
    private static void methodsAreShort(String text) {
        String[] lines = text.split("\n");
        for (int i = 0; i < lines.length; i++) {
            Matcher begins = METHOD_BEGINS.matcher(lines[i]);
            if (begins.matches()) {
                int end = i;
                while (end < lines.length && !lines[end].equals(begins.group(1) + "}")) {
                    end++;
                }
                Check.due("short:" + lines[i], end - i < MOST_LINES_OF_A_METHOD, true);
            }
        }
    }

    private static List<Class<?>> allClasses() {
        List<Class<?>> classes = new ArrayList<>();
        classes.add(PaperSetter.class);
        for (int i = 0; i < classes.size(); i++) {
            classes.addAll(List.of(classes.get(i).getDeclaredClasses()));
        }
        return classes;
    }

    private static void classIsAllowed(Class<?> one) {
        if (one != PaperSetter.class) {
            int modifiers = one.getModifiers();
            Check.due(one + " is static", Modifier.isStatic(modifiers), true);
            boolean isHidden = !Modifier.isPublic(modifiers) && !Modifier.isProtected(modifiers);
            Check.due(one + " is private or package-visible", isHidden, true);
        }
    }

    private static void fieldsAreAllowed(Class<?> one) {
        int fields = 0;
        for (Field f : one.getDeclaredFields()) {
            if (Modifier.isStatic(f.getModifiers())) {
                Check.due(f + " is final", Modifier.isFinal(f.getModifiers()), true);
                boolean isConstant = List.of(CONSTANTS).contains(f.getType().getSimpleName());
                Check.due(f + " is a constant", isConstant, true);
            } else {
                fields++;
            }
        }
        Check.due(one + " has few fields", fields <= MOST_FIELDS, true);
    }

    /** Names of the face are the face's alone; rule 1 says so of private methods. */
    private static void methodsAreAllowed(Class<?> one) {
        Set<String> face = new TreeSet<>();
        for (Method m : PaperSetter.class.getDeclaredMethods()) {
            if (Modifier.isPublic(m.getModifiers())) {
                face.add(m.getName());
            }
        }
        for (Method m : one.getDeclaredMethods()) {
            boolean isOfFace = one == PaperSetter.class && Modifier.isPublic(m.getModifiers());
            Check.due(m + " has a name of its own", !isOfFace && face.contains(m.getName()), false);
            Check.due(m + " has few parameters", m.getParameterCount() <= MOST_PARAMETERS, true);
        }
    }
}
