/** Promises 20 to 22: remove, move, rename. */
final class ChangesTest {
    private static final Class<IllegalArgumentException> WRONG = IllegalArgumentException.class;

    public static void main(String[] args) {
        removes();
        movesWithinABlock();
        movesBetweenBlocks();
        moveRefuses();
        moveKeepsNesting();
        renames();
        renameRefuses();
        Check.end("ChangesTest");
    }

    private static void removes() {
        OffsideParser x = Check.parsed("a; b:{c; d (e)}; f");
        Check.same("tree before remove", "[a, b {c, d (e)}, f]", Check.tree(x));
        Check.refuses("remove the root", WRONG, () -> x.remove(0));
        Check.refuses("remove a word", WRONG, () -> x.remove(2));
        Check.refuses("remove a block", WRONG, () -> x.remove(5));
        Check.refuses("remove a group", WRONG, () -> x.remove(10));
        Check.same("tree after refused removes", "[a, b {c, d (e)}, f]", Check.tree(x));
        Check.same("remove c", 12, x.remove(6));
        Check.same("tree", "[a, b {d (e)}, f]", Check.tree(x));
        Check.same("places move along", "0:0 0:0 0:0 0:3 0:3 0:5 0:9 0:9 0:11 0:12 0:17 0:17", Check.places(x));
        Check.same("remove d", 8, x.remove(6));
        Check.same("tree", "[a, b {}, f]", Check.tree(x));
        Check.same("remove f", 6, x.remove(6));
        Check.same("remove a", 4, x.remove(1));
        Check.same("tree", "[b {}]", Check.tree(x));
        Check.same("remove b", 1, x.remove(1));
        Check.same("tree", "[]", Check.tree(x));
        Check.same("nodeCount()", 1, x.nodeCount());
        OffsideParser number = Check.parsed("1; 2");
        Check.refuses("remove a number", WRONG, () -> number.remove(2));
    }

    private static void move(String text, int node, int block, int index, int due, String tree) {
        OffsideParser x = Check.parsed(text);
        int nodes = x.nodeCount();
        String call = "move(" + node + ", " + block + ", " + index + ") in \"" + text + "\"";
        Check.same(call, due, x.move(node, block, index));
        Check.same(call + ", the tree", tree, Check.tree(x));
        Check.same(call + ", the nodes", nodes, x.nodeCount());
        Check.same(call + ", its parent's child", due, x.child(x.parent(due), index));
        for (int i = 0; i < nodes; i++) {
            int inside = 0;
            for (int up = x.parent(i); up != -1; up = x.parent(up)) {
                inside += x.kind(up) == 0 ? 1 : 0;
            }
            Check.same(call + ", depth(" + i + ")", inside, x.depth(i));
        }
    }

    private static void movesWithinABlock() {
        move("a;b;c", 1, 0, 0, 1, "[a, b, c]");
        move("a;b;c", 1, 0, 1, 3, "[b, a, c]");
        move("a;b;c", 1, 0, 2, 5, "[b, c, a]");
        move("a;b;c", 3, 0, 0, 1, "[b, a, c]");
        move("a;b;c", 3, 0, 1, 3, "[a, b, c]");
        move("a;b;c", 5, 0, 0, 1, "[c, a, b]");
        move("a;b;c", 5, 0, 1, 3, "[a, c, b]");
        move("a;b;c", 5, 0, 2, 5, "[a, b, c]");
        move("a", 1, 0, 0, 1, "[a]");
        move("a b; c:{d}; e", 1, 0, 1, 6, "[c {d}, a b, e]");
        move("a b; c:{d}; e", 4, 0, 2, 6, "[a b, e, c {d}]");
    }

    private static void movesBetweenBlocks() {
        move("a;b:{c}", 1, 5, 0, 4, "[b {a, c}]");
        move("a;b:{c}", 1, 5, 1, 6, "[b {c, a}]");
        move("a;b:{c};d", 6, 0, 0, 1, "[c, a, b {}, d]");
        move("a;b:{c};d", 6, 0, 2, 6, "[a, b {}, c, d]");
        move("a;b:{c};d", 6, 0, 3, 8, "[a, b {}, d, c]");
        move("a:{b:{c}};d", 7, 0, 1, 7, "[a {b {}}, c, d]");
        move("a:{b:{c}};d", 7, 3, 1, 7, "[a {b {}, c}, d]");
        move("a:{b:{c}};d", 9, 6, 1, 9, "[a {b {c, d}}]");
        move("a:{b:{c}};d", 4, 0, 0, 1, "[b {c}, a {}, d]");
        move("a:{};b (c)", 4, 3, 0, 4, "[a {b (c)}]");
        move("a:{}b:{};c", 6, 3, 0, 4, "[a {c} b {}]");
        move("a:{}b:{};c", 6, 5, 0, 6, "[a {} b {c}]");
        move("a:{b}:{c}", 4, 6, 0, 5, "[a {} {b, c}]");
        move("a:{b}:{c}", 7, 3, 1, 6, "[a {b, c} {}]");
        OffsideParser x = Check.parsed("p:\n  q\n r");
        x.move(6, 3, 0);
        Check.same("places go with their nodes", "0:0 0:0 0:0 1:2 2:1 2:1 1:2 1:2", Check.places(x));
        x.parse();
        Check.same("tree after parse", "[p [q], r]", Check.tree(x));
    }

    private static void moveRefuses() {
        OffsideParser x = Check.parsed("a:{b:{c}}; d (e)");
        String tree = "[a {b {c}}, d (e)]";
        Check.same("tree before refused moves", tree, Check.tree(x));
        Check.refuses("move the root", WRONG, () -> x.move(0, 0, 0));
        Check.refuses("move a word", WRONG, () -> x.move(2, 0, 0));
        Check.refuses("move a block", WRONG, () -> x.move(3, 0, 0));
        Check.refuses("move a group", WRONG, () -> x.move(11, 0, 0));
        Check.refuses("move to an item", WRONG, () -> x.move(9, 4, 0));
        Check.refuses("move to a word", WRONG, () -> x.move(9, 5, 0));
        Check.refuses("move to a group", WRONG, () -> x.move(1, 11, 0));
        Check.refuses("move to itself", WRONG, () -> x.move(9, 9, 0));
        Check.refuses("move to its own block", WRONG, () -> x.move(1, 3, 0));
        Check.refuses("move to a block deep in it", WRONG, () -> x.move(1, 6, 0));
        Check.refuses("move b to its own block", WRONG, () -> x.move(4, 6, 0));
        Check.refuses("move to index -1", WRONG, () -> x.move(9, 0, -1));
        Check.refuses("move to index MIN", WRONG, () -> x.move(9, 0, Integer.MIN_VALUE));
        Check.refuses("move to index 2 of one other", WRONG, () -> x.move(9, 0, 2));
        Check.refuses("move to index 2 of one", WRONG, () -> x.move(9, 3, 2));
        Check.refuses("move to index MAX", WRONG, () -> x.move(9, 3, Integer.MAX_VALUE));
        Check.refuses("move to a node that is not there, index -1", IndexOutOfBoundsException.class,
                () -> x.move(2, 99, -1));
        Check.same("tree after refused moves", tree, Check.tree(x));
    }

    private static int itemOf(OffsideParser x, String word) {
        int node = x.find(Check.pack(word), 0);
        while (x.kind(node) != 1) {
            node = x.parent(node);
        }
        return node;
    }

    private static int blockOf(OffsideParser x, String word) {
        return x.parent(itemOf(x, word));
    }

    private static void moveKeepsNesting() {
        OffsideParser x = Check.parsed("a:".repeat(28) + "p:q:r\nc\n(d)\ne:f\n((g))");
        long before = x.digest();
        Check.same("blocks around r", 31, x.depth(itemOf(x, "r")));
        Check.refuses("a group in 30 blocks", WRONG, () -> x.move(itemOf(x, "d"), blockOf(x, "r"), 0));
        Check.refuses("a block in 30 blocks", WRONG, () -> x.move(itemOf(x, "e"), blockOf(x, "r"), 0));
        Check.refuses("two groups in 29 blocks", WRONG, () -> x.move(itemOf(x, "g"), blockOf(x, "q"), 0));
        Check.refuses("30 blocks in another", WRONG, () -> x.move(1, blockOf(x, "f"), 0));
        Check.same("digest() after refused moves", before, x.digest());
        int deepest = blockOf(x, "r");
        Check.same("a word in 30 blocks", deepest + 1, x.move(itemOf(x, "c"), deepest, 0));
        int next = blockOf(x, "q");
        Check.same("a group in 29 blocks", next + 1, x.move(itemOf(x, "d"), next, 0));
        Check.same("a block in 29 blocks", next + 1, x.move(itemOf(x, "e"), next, 0));
        Check.same("two groups in 28 blocks", blockOf(x, "p") + 1, x.move(itemOf(x, "g"), blockOf(x, "p"), 0));
        Check.same("items of the root", 1, x.childCount(0));
        Check.same("30 blocks within their own", 1, x.move(1, 0, 0));
        OffsideParser y = Check.parsed("a:".repeat(29) + "(b)\nc:{d}");
        Check.refuses("29 blocks, one with a group", WRONG, () -> y.move(1, blockOf(y, "d"), 0));
        OffsideParser z = Check.parsed("a:".repeat(28) + "(b)\nc:{d}");
        Check.same("28 blocks, one with a group", 4, z.move(1, blockOf(z, "d"), 0));
        Check.same("depth of its word", 30, z.depth(z.find(Check.pack("b"), 0)));
    }

    private static void renames() {
        OffsideParser x = Check.parsed("a bb: abcdefghijk a");
        Check.same("rename a", 8, x.rename(2, Check.pack("Wxyz0123")));
        Check.same("tree", "[Wxyz0123 bb [abcdefghijk a]]", Check.tree(x));
        Check.same("value(2)", 8, x.value(2));
        Check.same("letter(2, 8)", -1, x.letter(2, 8));
        Check.same("rename bb with 0 between", 3, x.rename(3, 0x0063000034003500L));
        Check.same("rename the long one", 1, x.rename(6, Check.pack("z")));
        Check.same("tree", "[Wxyz0123 c45 [z a]]", Check.tree(x));
        Check.same("letter(6, 1)", -1, x.letter(6, 1));
        Check.same("rename again", 8, x.rename(6, Check.pack("ZZZZZZZZ")));
        Check.same("rename the first again", 2, x.rename(2, Check.pack("m0")));
        Check.same("rename the last", 8, x.rename(7, Check.pack("lastlast")));
        Check.same("tree", "[m0 c45 [ZZZZZZZZ lastlast]]", Check.tree(x));
        Check.same("places stay", "0:0 0:0 0:0 0:2 0:6 0:6 0:6 0:18", Check.places(x));
        Check.same("find the new one", 7, x.find(Check.pack("lastlast"), 0));
        Check.same("find the old one", -1, x.find(Check.pack("a"), 0));
        Check.same("nodeCount()", 8, x.nodeCount());
        Check.same("length() of the text stays", 19, x.length());
        x.parse();
        Check.same("tree after parse", "[a bb [abcdefghijk a]]", Check.tree(x));
    }

    private static void renameRefuses() {
        OffsideParser x = Check.parsed("a 1 (b): c");
        String tree = Check.tree(x);
        for (int node : new int[] {0, 1, 3, 4, 6, 7}) {
            Check.refuses("rename(" + node + ")", WRONG, () -> x.rename(node, 97L));
        }
        for (String name : new String[] {"", "1", "1a", "a b", "a:", " a", "a ", "a\n", "a-b", "@", "[", "`", "{", "/"}) {
            Check.refuses("rename to \"" + name + "\"", WRONG, () -> x.rename(2, Check.pack(name)));
        }
        Check.refuses("rename to -1", WRONG, () -> x.rename(2, -1L));
        Check.refuses("rename to byte 225", WRONG, () -> x.rename(2, 0x61E1L));
        Check.same("tree after refused renames", tree, Check.tree(x));
        Check.same("rename to AZaz09", 6, x.rename(2, Check.pack("AZaz09")));
    }
}
