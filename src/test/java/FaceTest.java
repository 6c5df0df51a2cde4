import java.io.IOException;
import java.lang.reflect.Constructor;
import java.lang.reflect.Method;
import java.lang.reflect.Modifier;
import java.nio.file.Files;
import java.nio.file.Path;
import java.util.ArrayList;
import java.util.HashSet;
import java.util.List;
import java.util.Set;
import java.util.TreeSet;
import java.util.regex.Matcher;
import java.util.regex.Pattern;

/** The face of the class, and those rules of LANGUAGE.md that can be read from the class or its source. */
final class FaceTest {
    private static final Path SOURCE = Path.of("src/main/java/OffsideParser.java");

    private static final String[] FACE = {
        "int feed(long) IllegalArgumentException IllegalStateException",
        "int trim(int) IllegalArgumentException",
        "int length()",
        "int parse()",
        "int repairCount()",
        "int repair(int, int) IndexOutOfBoundsException",
        "int nodeCount()",
        "int kind(int) IndexOutOfBoundsException",
        "int parent(int) IndexOutOfBoundsException",
        "int childCount(int) IndexOutOfBoundsException",
        "int child(int, int) IndexOutOfBoundsException",
        "int line(int) IndexOutOfBoundsException",
        "int column(int) IndexOutOfBoundsException",
        "int value(int) IndexOutOfBoundsException",
        "int letter(int, int) IndexOutOfBoundsException",
        "int depth(int) IndexOutOfBoundsException",
        "int find(long, int)",
        "int wordCount()",
        "int remove(int) IndexOutOfBoundsException IllegalArgumentException",
        "int move(int, int, int) IndexOutOfBoundsException IllegalArgumentException",
        "int rename(int, long) IndexOutOfBoundsException IllegalArgumentException",
        "int write(boolean)",
        "int written(int) IndexOutOfBoundsException",
        "long digest()",
    };

    public static void main(String[] args) throws IOException {
        face();
        hidden();
        source(Files.readString(SOURCE));
        Check.end("FaceTest");
    }

    private static String show(Method m) {
        List<String> parts = new ArrayList<>();
        for (Class<?> c : m.getParameterTypes()) {
            parts.add(c.getSimpleName());
        }
        StringBuilder s = new StringBuilder(m.getReturnType().getSimpleName() + " " + m.getName());
        s.append("(").append(String.join(", ", parts)).append(")");
        for (Class<?> c : m.getExceptionTypes()) {
            s.append(" ").append(c.getSimpleName());
        }
        return s.toString();
    }

    private static void face() {
        Set<String> shown = new TreeSet<>();
        Set<String> names = new HashSet<>();
        for (Method m : OffsideParser.class.getDeclaredMethods()) {
            if (Modifier.isPublic(m.getModifiers())) {
                shown.add(show(m));
                names.add(m.getName());
            }
        }
        Check.same("public methods", new TreeSet<>(List.of(FACE)), shown);
        for (Method m : OffsideParser.class.getDeclaredMethods()) {
            if (!Modifier.isPublic(m.getModifiers())) {
                Check.same("private method with a public name: " + m.getName(), false, names.contains(m.getName()));
            }
        }
        Constructor<?>[] made = OffsideParser.class.getDeclaredConstructors();
        Check.same("constructors", 1, made.length);
        Check.same("constructor's parameters", 0, made[0].getParameterCount());
        Check.same("constructor is public", true, Modifier.isPublic(made[0].getModifiers()));
        Check.same("class is public and final", Modifier.PUBLIC | Modifier.FINAL, OffsideParser.class.getModifiers());
    }

    private static void hidden() {
        for (Method m : OffsideParser.class.getDeclaredMethods()) {
            int how = m.getModifiers();
            Check.same(m.getName() + " is public or private", true, Modifier.isPublic(how) || Modifier.isPrivate(how));
        }
        for (java.lang.reflect.Field f : OffsideParser.class.getDeclaredFields()) {
            Check.same(f.getName() + " is private", true, Modifier.isPrivate(f.getModifiers()));
        }
        Check.same("at most twelve classes", true, OffsideParser.class.getDeclaredClasses().length < 12);
        for (Class<?> c : OffsideParser.class.getDeclaredClasses()) {
            Check.same(c.getSimpleName() + " is static", true, Modifier.isStatic(c.getModifiers()));
            Check.same(c.getSimpleName() + " has at most 20 fields that change", true, fieldsOf(c) <= 20);
            for (Method m : c.getDeclaredMethods()) {
                Check.same(c.getSimpleName() + "." + m.getName() + " takes at most seven", true, m.getParameterCount() <= 7);
            }
            for (java.lang.reflect.Field f : c.getDeclaredFields()) {
                boolean fine = !Modifier.isStatic(f.getModifiers()) || Modifier.isFinal(f.getModifiers());
                Check.same(c.getSimpleName() + "." + f.getName() + " is no static state", true, fine);
            }
        }
    }

    private static int fieldsOf(Class<?> c) {
        int fields = 0;
        for (java.lang.reflect.Field f : c.getDeclaredFields()) {
            fields += Modifier.isStatic(f.getModifiers()) ? 0 : 1;
        }
        return fields;
    }

    private static void source(String source) {
        String code = source.replaceAll("(?s)/\\*.*?\\*/", "").replaceAll("//[^\n]*", "");
        // An arrow is fine behind a case alone. The class needs no catch, and so none that hides the machine's throws.
        String[] outside = {"(?m)^(?!.*\\b(case|default)\\b).*->", "::", "\\bfinally\\b", "\\bsynchronized\\b", "\\bassert\\b",
            "\\bpackage\\b", "\\bprotected\\b", "Exact\\(", "\\bhashCode\\b", "\\bSystem\\.(?!arraycopy)", "\\bRandom\\b",
            "\\bThread\\b", "\\bstatic \\{", "\\btry\\b", "\\bcatch\\b"};
        for (String bad : outside) {
            Check.same(bad + " in the source", false, Pattern.compile(bad).matcher(code).find());
        }
        Matcher imports = Pattern.compile("import ([\\w.]+);").matcher(code);
        while (imports.find()) {
            Check.same("import " + imports.group(1), true,
                    imports.group(1).matches("java\\.util\\.(Arrays|ArrayList|List|Iterator|NoSuchElementException)"));
        }
        Check.same("signs of the source", true, source.chars().allMatch(c -> c == 10 || (c >= 32 && c <= 126)));
        Matcher thrown = Pattern.compile("throw new (\\w+)\\(").matcher(code);
        while (thrown.find()) {
            Check.same("throw of " + thrown.group(1), true,
                    thrown.group(1).matches("IllegalStateException|IllegalArgumentException|IndexOutOfBoundsException"));
        }
        longestMethod(code);
    }

    private static void longestMethod(String code) {
        int lines = 0;
        String name = "";
        for (String line : code.split("\n")) {
            lines++;
            if (line.matches(" {4,8}\\S.*\\) (throws .*)?\\{")) {
                name = line.trim();
                lines = 0;
            } else if (line.matches(" {4,8}\\}") && !name.isEmpty()) {
                Check.same("lines of " + name + " at most 60: " + (lines <= 60), true, lines <= 60);
                name = "";
            }
        }
    }
}
