/** The four examples of the document. */
final class ExamplesTest {
    public static void main(String[] args) {
        linesThatAreIndented();
        bracesWithinALine();
        lineBetweenTwoColumns();
        bracketsThatDoNotFit();
        Check.end("ExamplesTest");
    }

    private static void linesThatAreIndented() {
        OffsideParser x = Check.fed("a:\n  b\n  c\nd");
        Check.same("1 parse()", 10, x.parse());
        Check.same("1 kind(2)", 2, x.kind(2));
        Check.same("1 kind(3)", 0, x.kind(3));
        Check.same("1 childCount(3)", 2, x.childCount(3));
        Check.same("1 depth(5)", 2, x.depth(5));
        Check.same("1 line(7)", 2, x.line(7));
        Check.same("1 column(5)", 2, x.column(5));
        Check.same("1 write(false)", 14, x.write(false));
        Check.same("1 written(2)", 32, x.written(2));
        Check.same("1 written(3)", 123, x.written(3));
    }

    private static void bracesWithinALine() {
        OffsideParser x = Check.fed("a: {b} c");
        Check.same("2 parse()", 7, x.parse());
        Check.same("2 childCount(1)", 3, x.childCount(1));
        Check.same("2 value(3)", 1, x.value(3));
        Check.same("2 write(true)", 11, x.write(true));
        Check.same("2 written(1)", 58, x.written(1));
        Check.same("2 written(8)", 32, x.written(8));
    }

    private static void lineBetweenTwoColumns() {
        OffsideParser x = Check.fed("a:\n    b\n  c");
        Check.same("3 parse()", 8, x.parse());
        Check.same("3 repairCount()", 1, x.repairCount());
        Check.same("3 repair(0, 0)", 2, x.repair(0, 0));
        Check.same("3 repair(0, 1)", 2, x.repair(0, 1));
        Check.same("3 childCount(0)", 2, x.childCount(0));
    }

    private static void bracketsThatDoNotFit() {
        OffsideParser x = Check.fed("x) ; y\n(1");
        Check.same("4 parse()", 8, x.parse());
        Check.same("4 repairCount()", 2, x.repairCount());
        Check.same("4 repair(0, 0)", 4, x.repair(0, 0));
        Check.same("4 repair(1, 0)", 6, x.repair(1, 0));
        Check.same("4 repair(1, 1)", 1, x.repair(1, 1));
        Check.same("4 childCount(0)", 3, x.childCount(0));
        Check.same("4 find(121, 0)", 4, x.find(121L, 0));
        Check.refuses("4 remove(2)", IllegalArgumentException.class, () -> x.remove(2));
        Check.refuses("4 remove(4)", IllegalArgumentException.class, () -> x.remove(4));
        Check.same("4 nodeCount()", 8, x.nodeCount());
    }
}
