/** Promises 23 and 24: write, written. */
final class WritingTest {
    public static void main(String[] args) {
        withBraces();
        withColumns();
        longest();
        whatIsWritten();
        readsAgain();
        Check.end("WritingTest");
    }

    private static void due(boolean withColumns, String text, String want) {
        OffsideParser x = Check.parsed(text);
        String call = "write(" + withColumns + ") of \"" + text + "\"";
        Check.same(call, want.length(), x.write(withColumns));
        Check.same(call, want, Check.written(x, withColumns));
    }

    private static void withBraces() {
        due(false, "", "");
        due(false, "a  b\n c", "a b c\n");
        due(false, "a;b", "a\nb\n");
        due(false, "007 0 1000000000 1000000012 999999999 100 10", "7 0 0 12 999999999 100 10\n");
        due(false, "()", "()\n");
        due(false, "( a 1(b)( )c )", "(a 1 (b) () c)\n");
        due(false, "a(b)", "a (b)\n");
        due(false, "a:", "a: { }\n");
        due(false, "a:{}b", "a: { } b\n");
        due(false, "a:b;c", "a: { b; c }\n");
        due(false, "a::b", "a: { }: { b }\n");
        due(false, "a:{b:{c;d}e;f}g:{}", "a: { b: { c; d } e; f } g: { }\n");
        due(false, "a:\n  b\n  c\nd", "a: { b; c }\nd\n");
    }

    private static void withColumns() {
        due(true, "", "");
        due(true, "a  b\n c;d", "a b c\nd\n");
        due(true, "a:", "a:\n");
        due(true, "a:;b", "a:\nb\n");
        due(true, "a:{b;c}", "a:\n  b\n  c\n");
        due(true, "a:{b;c}d", "a: { b; c } d\n");
        due(true, "a:b:c", "a:\n  b:\n    c\n");
        due(true, "a:{b:{c;d}e;f}", "a:\n  b: { c; d } e\n  f\n");
        due(true, "a:{b:{c;d};e}f", "a: { b: { c; d }; e } f\n");
        due(true, "a:{b}:{c}", "a: { b }:\n  c\n");
        due(true, "a:{b}:{c};d", "a: { b }:\n  c\nd\n");
        due(true, "a (1 b):{(2);3}\nd", "a (1 b):\n  (2)\n  3\nd\n");
        due(true, "a:{b:;c:{}}", "a:\n  b:\n  c:\n");
        due(true, "a:{b:{c:{d}e}};f", "a:\n  b:\n    c: { d } e\nf\n");
    }

    private static void longest() {
        OffsideParser x = Check.parsed("a:".repeat(30) + "a" + ";a".repeat(269));
        Check.same("text of 599 bytes", 599, x.length());
        int nested = 0;
        for (int i = 0; i < 30; i++) {
            nested += 2 * i + 3;
        }
        Check.same("write(true)", nested + 270 * 62, x.write(true));
        Check.same("its last byte", 10, x.written(nested + 270 * 62 - 1));
        Check.same("the one before", (int) 'a', x.written(nested + 270 * 62 - 2));
        Check.same("the one before that", 32, x.written(nested + 270 * 62 - 3));
        Check.same("write(false)", 30 * 7 + 1 + 269 * 3 + 1, x.write(false));
        OffsideParser groups = Check.parsed("(".repeat(30) + ")".repeat(30));
        Check.same("write(false) of 30 groups", 61, groups.write(false));
        Check.same("write(true) of 30 groups", 61, groups.write(true));
    }

    private static void whatIsWritten() {
        OffsideParser x = Check.parsed("a; b c");
        Check.refuses("written(0) before write", IndexOutOfBoundsException.class, () -> x.written(0));
        Check.same("write", 6, x.write(false));
        Check.same("written(0)", (int) 'a', x.written(0));
        Check.same("written(5)", 10, x.written(5));
        Check.refuses("written(6)", IndexOutOfBoundsException.class, () -> x.written(6));
        Check.refuses("written(-1)", IndexOutOfBoundsException.class, () -> x.written(-1));
        Check.refuses("written(MIN)", IndexOutOfBoundsException.class, () -> x.written(Integer.MIN_VALUE));
        Check.refuses("written(MAX)", IndexOutOfBoundsException.class, () -> x.written(Integer.MAX_VALUE));
        x.remove(1);
        x.rename(2, Check.pack("zzz"));
        x.trim(0);
        x.parse();
        Check.same("written(0) stays when the tree is changed", (int) 'a', x.written(0));
        Check.same("written(5) stays", 10, x.written(5));
        Check.same("write of nothing", 0, x.write(true));
        Check.refuses("written(0) after that", IndexOutOfBoundsException.class, () -> x.written(0));
        OffsideParser changed = Check.parsed("a:{b};c");
        changed.rename(2, Check.pack("longer"));
        changed.move(6, 3, 0);
        Check.same("write after changes", "longer:\n  c\n  b\n", Check.written(changed, true));
        Check.same("write after changes", "longer: { c; b }\n", Check.written(changed, false));
    }

    /** What is written is a text of the same tree, without repairs. */
    private static void readsAgain() {
        String[] texts = {"a:{b:{c;d}e;f}g:{}", "a::b", "a:{b}:{c};d", "x (1 (y)) : {z:;w:v}", "a:\n  b\nc: d: e\n f"};
        for (String text : texts) {
            for (int columns = 0; columns < 2; columns++) {
                OffsideParser x = Check.parsed(text);
                String tree = Check.tree(x).replace('{', '[').replace('}', ']');
                OffsideParser again = Check.parsed(Check.written(x, columns == 1));
                Check.same("tree again of " + text, tree, Check.tree(again).replace('{', '[').replace('}', ']'));
                Check.same("repairs again of " + text, 0, again.repairCount());
            }
        }
    }
}
