/** Promises 1 to 4: a new object, feed, trim, length. */
final class TextTest {
    public static void main(String[] args) {
        newObject();
        feedAppends();
        feedRefusesBytes();
        feedRefusesTooLong();
        trimShortens();
        textAndTreeAreApart();
        Check.end("TextTest");
    }

    private static void newObject() {
        OffsideParser x = new OffsideParser();
        Check.same("new: length()", 0, x.length());
        Check.same("new: nodeCount()", 1, x.nodeCount());
        Check.same("new: kind(0)", 0, x.kind(0));
        Check.same("new: parent(0)", -1, x.parent(0));
        Check.same("new: childCount(0)", 0, x.childCount(0));
        Check.same("new: line(0)", 0, x.line(0));
        Check.same("new: column(0)", 0, x.column(0));
        Check.same("new: value(0)", 0, x.value(0));
        Check.same("new: depth(0)", 0, x.depth(0));
        Check.same("new: letter(0, 0)", -1, x.letter(0, 0));
        Check.same("new: repairCount()", 0, x.repairCount());
        Check.same("new: wordCount()", 0, x.wordCount());
        Check.same("new: find", -1, x.find(97L, 0));
        Check.refuses("new: kind(1)", IndexOutOfBoundsException.class, () -> x.kind(1));
        Check.refuses("new: repair(0, 0)", IndexOutOfBoundsException.class, () -> x.repair(0, 0));
        Check.refuses("new: written(0)", IndexOutOfBoundsException.class, () -> x.written(0));
        Check.same("new: parse()", 1, x.parse());
        Check.same("new: write(true)", 0, x.write(true));
        Check.same("new: write(false)", 0, x.write(false));
        OffsideParser other = Check.parsed("a b");
        Check.same("two objects: nodeCount()", 1, x.nodeCount());
        Check.same("two objects: nodeCount() of the other", 4, other.nodeCount());
    }

    private static void feedAppends() {
        OffsideParser x = new OffsideParser();
        Check.same("feed(0)", 0, x.feed(0L));
        Check.same("feed of one byte", 1, x.feed('a'));
        Check.same("feed of bytes with 0 between", 3, x.feed(0x0062000000630000L));
        Check.same("feed of eight bytes", 11, x.feed(Check.pack(" defg\n h")));
        Check.same("length()", 11, x.length());
        x.parse();
        Check.same("highest byte first, without 0", "[abc defg h]", Check.tree(x));
        OffsideParser edges = new OffsideParser();
        Check.same("feed of 32, 126 and 10", 3, edges.feed(0x207E0AL));
    }

    private static void feedRefusesBytes() {
        OffsideParser x = Check.fed("abc");
        int[] bad = {1, 9, 11, 13, 31, 127, 128, 255};
        for (int b : bad) {
            for (int place = 0; place < 8; place++) {
                long bytes = 0x6161616161616161L & ~(255L << 8 * place) | (long) b << 8 * place;
                Check.refuses("feed with byte " + b, IllegalArgumentException.class, () -> x.feed(bytes));
            }
        }
        Check.refuses("feed(-1)", IllegalArgumentException.class, () -> x.feed(-1L));
        Check.refuses("feed(Long.MIN_VALUE)", IllegalArgumentException.class, () -> x.feed(Long.MIN_VALUE));
        Check.same("length() after refused bytes", 3, x.length());
        for (int b = 32; b <= 126; b++) {
            OffsideParser y = new OffsideParser();
            Check.same("feed(" + b + ")", 1, y.feed(b));
        }
    }

    private static void feedRefusesTooLong() {
        OffsideParser x = Check.fed("a".repeat(595));
        Check.refuses("feed of 6 at 595", IllegalStateException.class, () -> x.feed(Check.pack("aaaaaa")));
        Check.same("length() after that", 595, x.length());
        Check.refuses("feed of 8 with a bad byte at 595", IllegalArgumentException.class,
                () -> x.feed(0x6161616161610901L));
        Check.same("feed of 5 at 595", 600, x.feed(Check.pack("aaaaa")));
        Check.same("feed(0) at 600", 600, x.feed(0L));
        Check.refuses("feed of 1 at 600", IllegalStateException.class, () -> x.feed(97L));
        Check.refuses("feed of a bad byte at 600", IllegalArgumentException.class, () -> x.feed(9L));
        Check.same("length() at the end", 600, x.length());
        Check.same("parse() of 600 letters", 3, x.parse());
        Check.same("value of 600 letters", 600, x.value(2));
    }

    private static void trimShortens() {
        OffsideParser x = Check.fed("abcdef");
        Check.refuses("trim(7)", IllegalArgumentException.class, () -> x.trim(7));
        Check.refuses("trim(-1)", IllegalArgumentException.class, () -> x.trim(-1));
        Check.refuses("trim(MIN)", IllegalArgumentException.class, () -> x.trim(Integer.MIN_VALUE));
        Check.refuses("trim(MAX)", IllegalArgumentException.class, () -> x.trim(Integer.MAX_VALUE));
        Check.same("length() after refused trims", 6, x.length());
        Check.same("trim(6)", 6, x.trim(6));
        Check.same("trim(2)", 6, x.trim(2));
        Check.same("length()", 2, x.length());
        Check.refuses("trim(3)", IllegalArgumentException.class, () -> x.trim(3));
        x.feed('z');
        x.parse();
        Check.same("text after trim and feed", "[abz]", Check.tree(x));
        Check.same("trim(0)", 3, x.trim(0));
        Check.same("trim(0) again", 0, x.trim(0));
        Check.same("parse() of nothing", 1, x.parse());
    }

    private static void textAndTreeAreApart() {
        OffsideParser x = Check.parsed("one two @");
        x.write(false);
        x.trim(0);
        x.feed(Check.pack("x;y"));
        Check.same("tree before the next parse", "[one two]", Check.tree(x));
        Check.same("repairs before the next parse", "STRAY 0:8", Check.repairs(x));
        x.parse();
        Check.same("tree after it", "[x, y]", Check.tree(x));
        Check.same("repairs after it", "", Check.repairs(x));
        Check.same("parse does not write", (int) 'o', x.written(0));
        Check.refuses("written(8)", IndexOutOfBoundsException.class, () -> x.written(8));
    }
}
