import java.lang.reflect.InvocationTargetException;
import java.lang.reflect.Method;
import java.util.List;

/** The four examples of the document: written out here, and once more as the document has them. */
final class ExamplesTest {
    public static void main(String[] args) throws ReflectiveOperationException {
        linesThatAreIndented();
        bracesWithinALine();
        lineBetweenTwoColumns();
        bracketsThatDoNotFit();
        asTheDocumentHasThem();
        Check.end("ExamplesTest");
    }

    private static void linesThatAreIndented() {
        OffsideParser x = Check.fed("a:\n  b\n  c\nd");
        Check.same("1 parse()", 10, x.parse());
        Check.same("1 kind(2)", 2, x.kind(2));
        Check.same("1 kind(3)", 0, x.kind(3));
        Check.same("1 childCount(3)", 2, x.childCount(3));
        Check.same("1 depth(5)", 2, x.depth(5));
        Check.same("1 line(7)", 2, x.line(7));
        Check.same("1 column(5)", 2, x.column(5));
        Check.same("1 write(false)", 14, x.write(false));
        Check.same("1 written(2)", 32, x.written(2));
        Check.same("1 written(3)", 123, x.written(3));
    }

    private static void bracesWithinALine() {
        OffsideParser x = Check.fed("a: {b} c");
        Check.same("2 parse()", 7, x.parse());
        Check.same("2 childCount(1)", 3, x.childCount(1));
        Check.same("2 value(3)", 1, x.value(3));
        Check.same("2 write(true)", 11, x.write(true));
        Check.same("2 written(1)", 58, x.written(1));
        Check.same("2 written(8)", 32, x.written(8));
    }

    private static void lineBetweenTwoColumns() {
        OffsideParser x = Check.fed("a:\n    b\n  c");
        Check.same("3 parse()", 8, x.parse());
        Check.same("3 repairCount()", 1, x.repairCount());
        Check.same("3 repair(0, 0)", 2, x.repair(0, 0));
        Check.same("3 repair(0, 1)", 2, x.repair(0, 1));
        Check.same("3 childCount(0)", 2, x.childCount(0));
    }

    private static void bracketsThatDoNotFit() {
        OffsideParser x = Check.fed("x) ; y\n(1");
        Check.same("4 parse()", 8, x.parse());
        Check.same("4 repairCount()", 2, x.repairCount());
        Check.same("4 repair(0, 0)", 4, x.repair(0, 0));
        Check.same("4 repair(1, 0)", 6, x.repair(1, 0));
        Check.same("4 repair(1, 1)", 1, x.repair(1, 1));
        Check.same("4 childCount(0)", 3, x.childCount(0));
        Check.same("4 find(121, 0)", 4, x.find(121L, 0));
        Check.refuses("4 remove(2)", IllegalArgumentException.class, () -> x.remove(2));
        Check.refuses("4 remove(4)", IllegalArgumentException.class, () -> x.remove(4));
        Check.same("4 nodeCount()", 8, x.nodeCount());
    }

    /** So that an example that is changed in the document is played as it is then. */
    private static void asTheDocumentHasThem() throws ReflectiveOperationException {
        if (!Document.isThere()) {
            return;
        }
        List<Document.Example> examples = Document.examples();
        Check.same("examples in the document", 4, examples.size());
        for (Document.Example example : examples) {
            OffsideParser x = Check.fed(example.text());
            for (String call : example.calls()) {
                int end = call.indexOf(" = ");
                Check.same("that this is a call with a result: " + call, true, end > 0);
                String due = call.substring(end + 3);
                Check.same("\"" + example.text() + "\" " + call, due, answer(x, call.substring(0, end)));
            }
        }
    }

    /** What a call answers that is written as in the document, for instance find(121L, 0). */
    private static String answer(OffsideParser x, String call) throws ReflectiveOperationException {
        String name = call.substring(0, call.indexOf('('));
        String inside = call.substring(call.indexOf('(') + 1, call.length() - 1);
        String[] given = inside.isEmpty() ? new String[0] : inside.split(", ");
        for (Method method : OffsideParser.class.getDeclaredMethods()) {
            if (method.getName().equals(name)) {
                try {
                    return method.invoke(x, arguments(method.getParameterTypes(), given)).toString();
                } catch (InvocationTargetException e) {
                    return "throws " + e.getCause().getClass().getSimpleName();
                }
            }
        }
        return "no such method";
    }

    private static Object[] arguments(Class<?>[] types, String[] given) {
        Object[] made = new Object[given.length];
        for (int i = 0; i < given.length; i++) {
            if (types[i] == boolean.class) {
                made[i] = Boolean.valueOf(given[i]);
            } else if (types[i] == long.class) {
                made[i] = Long.valueOf(given[i].replace("L", ""));
            } else {
                made[i] = Integer.valueOf(given[i]);
            }
        }
        return made;
    }
}
