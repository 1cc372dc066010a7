import java.io.StringWriter;
import java.net.URI;
import java.net.URL;
import java.net.URLClassLoader;
import java.nio.file.Files;
import java.nio.file.Path;
import java.util.ArrayList;
import java.util.List;
import java.util.regex.Matcher;
import java.util.regex.Pattern;
import javax.tools.JavaCompiler;
import javax.tools.JavaFileObject;
import javax.tools.SimpleJavaFileObject;
import javax.tools.ToolProvider;

/** The code in README.md compiles, and each call answers what stands behind it. */
public final class ReadmeTest {
    private static final String NAME = "ReadmeCode";
    private static final Pattern CALL = Pattern.compile("(x\\.\\w+\\(.*\\));\\s*// (-?\\w+): .*");

    private final List<String> calls = new ArrayList<>();
    private final List<Integer> due = new ArrayList<>();
    private final StringBuilder code = new StringBuilder();
    private boolean inCode = false;

    public static void main(String[] args) throws Exception {
        ReadmeTest test = new ReadmeTest();
        for (String line : Files.readAllLines(readme())) {
            test.read(line);
        }
        List<?> got = test.answers();
        Check.due("answers in README.md", got.size(), test.due.size());
        for (int i = 0; i < got.size(); i++) {
            Check.due("README.md, " + test.calls.get(i), (Integer) got.get(i), test.due.get(i));
        }
        Check.due("README.md has some calls", got.size() > 20 ? 1 : 0, 1);
        Check.finish("ReadmeTest");
    }

    private static Path readme() {
        return Path.of(System.getProperty("project", "."), "README.md");
    }

    private void read(String line) throws ReflectiveOperationException {
        if (line.startsWith("```")) {
            inCode = line.equals("```java");
            return;
        }
        if (!inCode) {
            return;
        }
        Matcher call = CALL.matcher(line);
        if (call.matches()) {
            calls.add(call.group(1));
            due.add(numberOf(call.group(2)));
            code.append("got.add(").append(call.group(1)).append(");\n");
        } else {
            Check.due("README.md tells what this answers: " + line, line.startsWith("x.") ? 1 : 0, 0);
            code.append(line).append('\n');
        }
    }

    /** An answer is written as a number, or by the name of a constant. */
    private static int numberOf(String answer) throws ReflectiveOperationException {
        if (Character.isUpperCase(answer.charAt(0))) {
            return BlessedPins.class.getField(answer).getInt(null);
        }
        return Integer.parseInt(answer);
    }

    private List<?> answers() throws Exception {
        Path folder = Files.createTempDirectory("readme");
        compileInto(folder);
        URL[] where = {folder.toUri().toURL()};
        try (URLClassLoader loader = new URLClassLoader(where, ReadmeTest.class.getClassLoader())) {
            return (List<?>) loader.loadClass(NAME).getMethod("answers").invoke(null);
        } finally {
            Files.deleteIfExists(folder.resolve(NAME + ".class"));
            Files.deleteIfExists(folder);
        }
    }

    private void compileInto(Path folder) {
        String whole = "public final class " + NAME + " {\n"
                + "public static java.util.List<Integer> answers() {\n"
                + "java.util.List<Integer> got = new java.util.ArrayList<>();\n"
                + code + "return got;\n}\n}\n";
        JavaFileObject source = new SimpleJavaFileObject(
                URI.create("string:///" + NAME + ".java"), JavaFileObject.Kind.SOURCE) {
            @Override
            public CharSequence getCharContent(boolean ignoreErrors) {
                return whole;
            }
        };
        JavaCompiler compiler = ToolProvider.getSystemJavaCompiler();
        List<String> options = List.of("-d", folder.toString(), "-cp", System.getProperty("java.class.path"));
        StringWriter words = new StringWriter();
        boolean compiled = compiler.getTask(words, null, null, options, null, List.of(source)).call();
        Check.same("the code in README.md compiles", compiled ? "" : words.toString(), "");
        if (!compiled) {
            Check.finish("ReadmeTest");
        }
    }
}
