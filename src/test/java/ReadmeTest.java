import java.io.IOException;
import java.io.StringWriter;
import java.lang.reflect.InvocationTargetException;
import java.lang.reflect.Method;
import java.lang.reflect.Modifier;
import java.net.URI;
import java.net.URL;
import java.net.URLClassLoader;
import java.nio.file.Files;
import java.nio.file.Path;
import java.util.ArrayList;
import java.util.Comparator;
import java.util.List;
import java.util.regex.Matcher;
import java.util.regex.Pattern;
import java.util.stream.Stream;
import javax.tools.JavaCompiler;
import javax.tools.JavaFileObject;
import javax.tools.SimpleJavaFileObject;
import javax.tools.ToolProvider;

/**
 * The example that README.md shows. Its pieces of Java are put together to one program, in which each
 * answer is kept beside the one that README.md names; then it is compiled and run.
 */
final class ReadmeTest {
    private static final Path README = Path.of("README.md");
    private static final Path TESTS = Path.of("src/test/java");
    private static final String PROGRAM = "ReadmeExample";

    /** A statement in a line of its own, and behind it a comment that begins with = and its answer. */
    private static final Pattern ANSWERED = Pattern.compile(
            "((?:int|long|String) (\\w+) = )?([^;=]+);\\s+// = (-?[0-9]+L?|\"(?:[^\"\\\\]|\\\\.)*\"|throws \\w+)(:.*)?");

    public static void main(String[] args) throws IOException, ReflectiveOperationException {
        String readme = Files.readString(README);
        List<String> lines = linesOfJava(readme);
        everyCallIsAnswered(lines);
        everyMethodIsShown(lines);
        documentsExamplesAreShown(lines);
        everyTestIsNamed(readme);
        play(program(lines));
        Check.end("ReadmeTest");
    }

    private static List<String> linesOfJava(String readme) {
        List<String> lines = new ArrayList<>();
        Matcher piece = Pattern.compile("(?ms)^```java\n(.*?)^```$").matcher(readme);
        while (piece.find()) {
            lines.addAll(List.of(piece.group(1).split("\n")));
        }
        return lines;
    }

    /** Without this a comment in another form would take its answer out of the test. */
    private static void everyCallIsAnswered(List<String> lines) {
        int answered = 0;
        for (String line : lines) {
            boolean fits = ANSWERED.matcher(line.trim()).matches();
            answered += fits ? 1 : 0;
            boolean calls = Pattern.compile("^(\\w+ \\w+ = )?[xy]\\.").matcher(line).find();
            Check.same("that README.md names the answer in: " + line, calls || line.contains("//"), fits);
        }
        Check.same("that README.md has an example", true, answered > 0);
    }

    private static void everyMethodIsShown(List<String> lines) {
        String example = String.join("\n", lines);
        Check.same("that README.md makes an object", true, example.contains("new OffsideParser()"));
        for (Method method : OffsideParser.class.getDeclaredMethods()) {
            if (Modifier.isPublic(method.getModifiers())) {
                String call = "." + method.getName() + "(";
                Check.same("that README.md shows " + method.getName(), true, example.contains(call));
            }
        }
    }

    /** README.md says that these are the document's first and third examples. */
    private static void documentsExamplesAreShown(List<String> lines) {
        if (!Document.isThere()) {
            return;
        }
        resultsAreShown("x.", Document.examples().get(0), lines);
        resultsAreShown("y.", Document.examples().get(2), lines);
    }

    private static void resultsAreShown(String object, Document.Example example, List<String> lines) {
        for (String due : example.calls()) {
            boolean shown = false;
            for (String line : lines) {
                Matcher answered = ANSWERED.matcher(line);
                shown = shown || (answered.matches()
                        && (answered.group(3) + " = " + answered.group(4)).equals(object + due));
            }
            Check.same("that README.md shows " + object + due, true, shown);
        }
    }

    private static void everyTestIsNamed(String readme) throws IOException {
        Check.same("that README.md says how the tests are run", true, readme.contains("\n    .ci/run\n"));
        try (Stream<Path> files = Files.list(TESTS)) {
            for (Path file : files.sorted(Comparator.naturalOrder()).toList()) {
                String name = file.getFileName().toString().replace(".java", "");
                Check.same("that README.md names " + name, true, Pattern.compile("\\b" + name + "\\b").matcher(readme).find());
            }
        }
    }

    private static String program(List<String> lines) {
        StringBuilder source = new StringBuilder("public final class " + PROGRAM + " {\n"
                + "    public static void run(java.util.List<Object[]> answers) {\n");
        for (String line : lines) {
            Matcher answered = ANSWERED.matcher(line.trim());
            source.append(answered.matches() ? kept(answered) : line).append("\n");
        }
        return source.append("    }\n}\n").toString();
    }

    /** The statement, changed so that it adds its call, the due answer and the answer to the list. */
    private static String kept(Matcher statement) {
        String call = statement.group(3);
        String due = statement.group(4);
        if (due.startsWith("throws ")) {
            return "try { " + add(call, quoted(due), call) + " } catch (RuntimeException e) { "
                    + add(call, quoted(due), "\"throws \" + e.getClass().getSimpleName()") + " }";
        }
        boolean named = statement.group(1) != null;
        return (named ? statement.group(1) + call + "; " : "") + add(call, due, named ? statement.group(2) : call);
    }

    private static String add(String call, String due, String answer) {
        return "answers.add(new Object[] {" + quoted(call) + ", " + due + ", " + answer + "});";
    }

    private static String quoted(String s) {
        return "\"" + s.replace("\\", "\\\\").replace("\"", "\\\"") + "\"";
    }

    private static void play(String source) throws IOException, ReflectiveOperationException {
        Path folder = Files.createTempDirectory("readme");
        try {
            StringWriter said = new StringWriter();
            boolean compiled = compile(source, folder, said);
            Check.same("that README.md's example compiles " + said, true, compiled);
            if (compiled) {
                run(folder);
            }
        } finally {
            delete(folder);
        }
    }

    private static boolean compile(String source, Path folder, StringWriter said) {
        JavaCompiler compiler = ToolProvider.getSystemJavaCompiler();
        if (compiler == null) {
            said.write("(there is no compiler: java is not that of a JDK)");
            return false;
        }
        List<String> options = List.of("-d", folder.toString(), "-cp", System.getProperty("java.class.path"));
        return compiler.getTask(said, null, null, options, null, List.of(file(source))).call();
    }

    private static JavaFileObject file(String source) {
        return new SimpleJavaFileObject(URI.create("string:///" + PROGRAM + ".java"), JavaFileObject.Kind.SOURCE) {
            @Override
            public CharSequence getCharContent(boolean ignoreEncodingErrors) {
                return source;
            }
        };
    }

    private static void run(Path folder) throws IOException, ReflectiveOperationException {
        List<Object[]> answers = new ArrayList<>();
        try (URLClassLoader loader = new URLClassLoader(new URL[] {folder.toUri().toURL()})) {
            loader.loadClass(PROGRAM).getMethod("run", List.class).invoke(null, answers);
        } catch (InvocationTargetException e) {
            Check.same("that README.md's example comes to its end", "", e.getCause().toString());
        }
        for (Object[] answer : answers) {
            Check.same("README.md: " + answer[0], answer[1], answer[2]);
        }
    }

    private static void delete(Path folder) throws IOException {
        try (Stream<Path> files = Files.walk(folder)) {
            for (Path file : files.sorted(Comparator.reverseOrder()).toList()) {
                Files.delete(file);
            }
        }
    }
}
