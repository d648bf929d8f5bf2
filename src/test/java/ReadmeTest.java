import java.io.IOException;
import java.lang.reflect.Method;
import java.lang.reflect.Modifier;
import java.net.URL;
import java.net.URLClassLoader;
import java.nio.file.Files;
import java.nio.file.Path;
import java.util.ArrayList;
import java.util.List;
import java.util.regex.Matcher;
import java.util.regex.Pattern;
import javax.tools.JavaCompiler;
import javax.tools.ToolProvider;

/**
 * What README.md shows of the class's use answers as it says there: its lines of Java are compiled as they
 * stand, and each line's answer is held against the one that its comment begins with.
 */
public final class ReadmeTest {
    private static final String FENCE = "```";
    /** Perhaps a variable's type and name, a call, and behind // the answer, alone or with more to say of it. */
    private static final Pattern SHOWN = Pattern.compile(
            "((?:int|boolean) (\\w+) = )?(setter\\.\\w+\\(.*\\));\\s*// (-?\\d+|true|false)(: .+)?");

    private final StringBuilder source = new StringBuilder();
    private final List<String> calls = new ArrayList<>();
    private final List<String> dueAnswers = new ArrayList<>();

    public static void main(String[] args) throws IOException, ReflectiveOperationException {
        ReadmeTest test = new ReadmeTest();
        test.readExample(Files.readAllLines(Path.of("README.md")));
        test.showsEachMethod();
        test.answersAsShown();
        Check.end();
    }

    private void readExample(List<String> lines) {
        boolean isJava = false;
        for (String line : lines) {
            if (line.startsWith(FENCE)) {
                isJava = line.equals(FENCE + "java");
            } else if (isJava) {
                readLine(line);
            }
        }
        Check.due("README.md shows calls", calls.size() > 0, true);
    }

    private void readLine(String line) {
        Matcher shown = SHOWN.matcher(line);
        if (shown.matches()) {
            String variable = shown.group(1);
            if (variable != null) {
                source.append(variable).append(shown.group(3)).append(";\n");
            }
            String answer = variable != null ? shown.group(2) : shown.group(3);
            source.append("answers.add(").append(answer).append(");\n");
            calls.add(shown.group(3));
            dueAnswers.add(shown.group(4));
        } else {
            boolean tellsNoAnswer = line.isEmpty() || line.startsWith("//") || line.contains("= new PaperSetter();");
            Check.due("README.md's line tells its answer: " + line, tellsNoAnswer, true);
            source.append(line).append('\n');
        }
    }

    private void showsEachMethod() {
        String all = String.join("\n", calls);
        for (Method method : PaperSetter.class.getDeclaredMethods()) {
            if (Modifier.isPublic(method.getModifiers())) {
                String call = "setter." + method.getName() + "(";
                Check.due("README.md shows " + call + ")", all.contains(call), true);
            }
        }
    }

    private void answersAsShown() throws IOException, ReflectiveOperationException {
        Path directory = Files.createTempDirectory("readme");
        Path file = directory.resolve("ReadmeExample.java");
        Files.writeString(file, "public final class ReadmeExample {\n"
                + "public static java.util.List<Object> answers() {\n"
                + "java.util.List<Object> answers = new java.util.ArrayList<>();\n"
                + source + "return answers;\n}\n}\n");
        JavaCompiler compiler = ToolProvider.getSystemJavaCompiler();
        int failed = compiler.run(null, null, null, "-d", directory.toString(),
                "-cp", System.getProperty("java.class.path"), file.toString());
        Check.due("README.md's Java compiles, failures", failed, 0);
        if (failed == 0) {
            holdAgainst(answersOf(directory));
        }
        Files.deleteIfExists(directory.resolve("ReadmeExample.class"));
        Files.delete(file);
        Files.delete(directory);
    }

    private static List<?> answersOf(Path directory) throws IOException, ReflectiveOperationException {
        URL[] places = {directory.toUri().toURL()};
        try (URLClassLoader loader = new URLClassLoader(places, PaperSetter.class.getClassLoader())) {
            return (List<?>) loader.loadClass("ReadmeExample").getMethod("answers").invoke(null);
        }
    }

    private void holdAgainst(List<?> answers) {
        Check.due("README.md's answers", answers.size(), calls.size());
        for (int i = 0; i < calls.size() && i < answers.size(); i++) {
            Check.due("README.md's " + calls.get(i), answers.get(i).toString(), dueAnswers.get(i));
        }
    }
}
