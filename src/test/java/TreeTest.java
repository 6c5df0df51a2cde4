import java.util.concurrent.Callable;

/** Promises 8 to 19: what can be asked about the nodes and the words of a tree. */
final class TreeTest {
    private static final Class<IndexOutOfBoundsException> OUTSIDE = IndexOutOfBoundsException.class;

    public static void main(String[] args) {
        shape();
        valuesAndLetters();
        depths();
        nodesThatAreNotThere();
        findsWords();
        countsWords();
        Check.end("TreeTest");
    }

    /** 0 root, 1 item, 2 a, 3 {, 4 item, 5 b, 6 item, 7 (, 8 1, 9 (, 10 c, 11 d, 12 item, 13 e, 14 [, 15 item, 16 7. */
    private static OffsideParser sample() {
        return Check.parsed("a:{b;(1(c))}d\ne:7");
    }

    private static void row(OffsideParser x, String name, int[] due, java.util.function.IntUnaryOperator ask) {
        for (int node = 0; node < due.length; node++) {
            Check.same(name + "(" + node + ")", due[node], ask.applyAsInt(node));
        }
    }

    private static void shape() {
        OffsideParser x = sample();
        Check.same("nodeCount()", 17, x.nodeCount());
        row(x, "kind", new int[] {0, 1, 2, 0, 1, 2, 1, 4, 3, 4, 2, 2, 1, 2, 0, 1, 3}, x::kind);
        row(x, "parent", new int[] {-1, 0, 1, 1, 3, 4, 3, 6, 7, 7, 9, 1, 0, 12, 12, 14, 15}, x::parent);
        row(x, "childCount", new int[] {2, 3, 0, 2, 1, 0, 1, 2, 0, 1, 0, 0, 2, 0, 1, 1, 0}, x::childCount);
        row(x, "line", new int[] {0, 0, 0, 0, 0, 0, 0, 0, 0, 0, 0, 0, 1, 1, 1, 1, 1}, x::line);
        row(x, "column", new int[] {0, 0, 0, 2, 3, 3, 5, 5, 6, 7, 8, 12, 0, 0, 2, 2, 2}, x::column);
        Check.same("child(0, 0)", 1, x.child(0, 0));
        Check.same("child(0, 1)", 12, x.child(0, 1));
        Check.same("child(1, 0)", 2, x.child(1, 0));
        Check.same("child(1, 1)", 3, x.child(1, 1));
        Check.same("child(1, 2)", 11, x.child(1, 2));
        Check.same("child(3, 1)", 6, x.child(3, 1));
        Check.same("child(7, 1)", 9, x.child(7, 1));
        Check.refuses("child(0, 2)", OUTSIDE, () -> x.child(0, 2));
        Check.refuses("child(0, -1)", OUTSIDE, () -> x.child(0, -1));
        Check.refuses("child(2, 0)", OUTSIDE, () -> x.child(2, 0));
        Check.refuses("child(1, 3)", OUTSIDE, () -> x.child(1, 3));
        Check.refuses("child(0, MIN)", OUTSIDE, () -> x.child(0, Integer.MIN_VALUE));
        Check.refuses("child(0, MAX)", OUTSIDE, () -> x.child(0, Integer.MAX_VALUE));
        OffsideParser indented = Check.parsed("\n   a");
        Check.same("line(0) of the root", 0, indented.line(0));
        Check.same("column(0) of the root", 0, indented.column(0));
        Check.same("line(1)", 1, indented.line(1));
        Check.same("column(1)", 3, indented.column(1));
    }

    private static void valuesAndLetters() {
        OffsideParser x = Check.parsed("Az09: {7} (0)\nb: 1234567890");
        Check.same("tree for values", "[Az09 {7} (0), b [234567890]]", Check.tree(x));
        row(x, "value", new int[] {0, 0, 4, 1, 0, 7, 0, 0, 0, 1, 0, 0, 234567890}, x::value);
        Check.same("letter(2, 0)", (int) 'A', x.letter(2, 0));
        Check.same("letter(2, 1)", (int) 'z', x.letter(2, 1));
        Check.same("letter(2, 2)", (int) '0', x.letter(2, 2));
        Check.same("letter(2, 3)", (int) '9', x.letter(2, 3));
        Check.same("letter(2, 4)", -1, x.letter(2, 4));
        Check.same("letter(2, -1)", -1, x.letter(2, -1));
        Check.same("letter(2, MIN)", -1, x.letter(2, Integer.MIN_VALUE));
        Check.same("letter(2, MAX)", -1, x.letter(2, Integer.MAX_VALUE));
        for (int node : new int[] {0, 1, 3, 4, 5, 6, 12}) {
            Check.same("letter(" + node + ", 0)", -1, x.letter(node, 0));
        }
        OffsideParser words = Check.parsed("ab cd");
        Check.same("letter behind a word is not the next word's", -1, words.letter(2, 2));
        Check.same("letter before a word is not the last word's", -1, words.letter(3, -1));
    }

    private static void depths() {
        OffsideParser x = sample();
        row(x, "depth", new int[] {0, 1, 1, 1, 2, 2, 2, 2, 2, 2, 2, 1, 1, 1, 1, 2, 2}, x::depth);
        OffsideParser deep = Check.parsed("a:".repeat(30) + "b");
        Check.same("depth of the last word", 31, deep.depth(deep.nodeCount() - 1));
    }

    private static void nodesThatAreNotThere() {
        OffsideParser x = sample();
        long before = x.digest();
        for (int node : new int[] {-1, 17, 18, 1000, Integer.MAX_VALUE, Integer.MIN_VALUE}) {
            refusesNode("kind", node, () -> x.kind(node));
            refusesNode("parent", node, () -> x.parent(node));
            refusesNode("childCount", node, () -> x.childCount(node));
            refusesNode("child", node, () -> x.child(node, 0));
            refusesNode("line", node, () -> x.line(node));
            refusesNode("column", node, () -> x.column(node));
            refusesNode("value", node, () -> x.value(node));
            refusesNode("letter", node, () -> x.letter(node, 0));
            refusesNode("depth", node, () -> x.depth(node));
            refusesNode("remove", node, () -> x.remove(node));
            refusesNode("move", node, () -> x.move(node, 0, 0));
            refusesNode("move to", node, () -> x.move(1, node, 0));
            refusesNode("move of a block to", node, () -> x.move(0, node, -1));
            refusesNode("rename", node, () -> x.rename(node, 97L));
            refusesNode("rename to nothing", node, () -> x.rename(node, 0L));
        }
        Check.same("digest() after refused calls", before, x.digest());
    }

    private static void refusesNode(String name, int node, Callable<?> work) {
        Check.refuses(name + " " + node, OUTSIDE, work);
    }

    private static void findsWords() {
        OffsideParser x = Check.parsed("a ab (a 1)\nb: {a; A}; abcdefgh abcdefghi a1");
        Check.same("tree for find", "[a ab (a 1), b {a, A}, abcdefgh abcdefghi a1]", Check.tree(x));
        Check.same("find a 0", 2, x.find(Check.pack("a"), 0));
        Check.same("find a 1", 5, x.find(Check.pack("a"), 1));
        Check.same("find a 2", 11, x.find(Check.pack("a"), 2));
        Check.same("find a 3", -1, x.find(Check.pack("a"), 3));
        Check.same("find a -1", -1, x.find(Check.pack("a"), -1));
        Check.same("find a MIN", -1, x.find(Check.pack("a"), Integer.MIN_VALUE));
        Check.same("find a MAX", -1, x.find(Check.pack("a"), Integer.MAX_VALUE));
        Check.same("find A", 13, x.find(Check.pack("A"), 0));
        Check.same("find ab", 3, x.find(Check.pack("ab"), 0));
        Check.same("find ab with 0 between", 3, x.find(0x6100000000006200L, 0));
        Check.same("find abcdefgh", 15, x.find(Check.pack("abcdefgh"), 0));
        Check.same("find abcdefgh 1", -1, x.find(Check.pack("abcdefgh"), 1));
        Check.same("find a1", 17, x.find(Check.pack("a1"), 0));
        Check.same("find 1, which is a number", -1, x.find(Check.pack("1"), 0));
        Check.same("find nothing", -1, x.find(0L, 0));
        Check.same("find bytes that no text has", -1, x.find(-1L, 0));
    }

    private static void countsWords() {
        Check.same("wordCount of numbers", 0, Check.parsed("1 2 (3)").wordCount());
        Check.same("wordCount a a a", 1, Check.parsed("a a: a").wordCount());
        Check.same("wordCount a A aa", 3, Check.parsed("a A (aa) a").wordCount());
        Check.same("wordCount long ones", 2, Check.parsed("abcdefghi abcdefghj abcdefghi").wordCount());
        OffsideParser x = Check.parsed("a;b;a;c");
        x.rename(4, Check.pack("c"));
        Check.same("wordCount after rename", 2, x.wordCount());
        x.remove(x.parent(x.find(Check.pack("a"), 0)));
        Check.same("wordCount after one remove", 2, x.wordCount());
        x.remove(x.parent(x.find(Check.pack("a"), 0)));
        Check.same("wordCount after another", 1, x.wordCount());
    }
}
