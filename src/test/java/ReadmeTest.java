import java.lang.reflect.Method;
import java.net.URI;
import java.net.URL;
import java.net.URLClassLoader;
import java.nio.file.Files;
import java.nio.file.Path;
import java.util.ArrayList;
import java.util.List;
import java.util.regex.Matcher;
import java.util.regex.Pattern;
import javax.tools.JavaCompiler;
import javax.tools.SimpleJavaFileObject;
import javax.tools.ToolProvider;

/** What README.md shows, compiled and run: behind each call stands what the program answers. */
public final class ReadmeTest {
    private static final Pattern BLOCK = Pattern.compile("(?ms)^```java\n(.*?)^```$");
    private static final Pattern CALL = Pattern.compile("(.*);\\s*// (-?[0-9]+(\\.[0-9]+)?)(:.*)?");
    private static final String NAME = "Shown";

    private final Checks checks = new Checks();
    private final List<String> calls = new ArrayList<>();
    private final List<String> due = new ArrayList<>();

    public static void main(String[] args) throws Exception {
        ReadmeTest test = new ReadmeTest();
        String text = Files.readString(Path.of("README.md"));
        test.namesEveryCall(text);
        test.compare(answersOf(test.programOf(text)));
        test.checks.end("ReadmeTest");
    }

    private void namesEveryCall(String text) {
        for (Method method : LeaningTrees.class.getMethods()) {
            if (method.getDeclaringClass() == LeaningTrees.class) {
                String name = method.getName();
                checks.holds("README.md tells what " + name + " is for", text.contains("`" + name + "`"));
                checks.holds("README.md shows " + name, text.contains("tree." + name + "("));
            }
        }
    }

    /** All blocks are one program; a line with a number behind it is a call with its answer. */
    private String programOf(String text) {
        // A class of another loader sees no class of the tests, so it hands its answers out as a list.
        StringBuilder program = new StringBuilder("public final class " + NAME + " {\n"
            + "public static java.util.List<String> answers() {\n"
            + "java.util.List<String> answers = new java.util.ArrayList<>();\n");
        Matcher block = BLOCK.matcher(text);
        while (block.find()) {
            for (String line : block.group(1).split("\n")) {
                program.append(statementOf(line)).append('\n');
            }
        }
        return program.append("return answers;\n}\n}\n").toString();
    }

    private String statementOf(String line) {
        Matcher call = CALL.matcher(line);
        if (call.matches()) {
            calls.add(call.group(1));
            due.add(call.group(2));
            return "answers.add(String.valueOf(" + call.group(1) + "));";
        }
        checks.holds("an answer stands behind " + line, !line.contains("tree."));
        return line;
    }

    private void compare(List<?> answers) {
        checks.holds("README.md shows calls", !calls.isEmpty());
        checks.due("answers", answers.size(), calls.size());
        for (int place = 0; place < Math.min(answers.size(), calls.size()); place++) {
            checks.same("README.md: " + calls.get(place), String.valueOf(answers.get(place)), due.get(place));
        }
    }

    private static List<?> answersOf(String program) throws Exception {
        Path build = Files.createTempDirectory("readme");
        try {
            return compiles(program, build) ? run(build) : List.of();
        } finally {
            Files.deleteIfExists(build.resolve(NAME + ".class"));
            Files.delete(build);
        }
    }

    private static boolean compiles(String program, Path build) {
        JavaCompiler compiler = ToolProvider.getSystemJavaCompiler();
        List<String> options = List.of("-d", build.toString(), "-cp", System.getProperty("java.class.path"));
        return compiler.getTask(null, null, null, options, null, List.of(new Source(program))).call();
    }

    private static List<?> run(Path build) throws Exception {
        try (URLClassLoader loader = new URLClassLoader(new URL[] {build.toUri().toURL()})) {
            return (List<?>) loader.loadClass(NAME).getMethod("answers").invoke(null);
        }
    }

    private static final class Source extends SimpleJavaFileObject {
        private final String program;

        Source(String program) {
            super(URI.create("string:///" + NAME + ".java"), Kind.SOURCE);
            this.program = program;
        }

        @Override
        public CharSequence getCharContent(boolean ignoreEncodingErrors) {
            return program;
        }
    }
}
