/** The edges of promises 20 to 22: remove, move, rename. */
final class ChangeEdges {
    private static final Class<IndexOutOfBoundsException> OUTSIDE = IndexOutOfBoundsException.class;
    private static final Class<IllegalArgumentException> WRONG = IllegalArgumentException.class;
    private static final int[] FAR = {-1, Integer.MIN_VALUE, Integer.MAX_VALUE, 1 << 30, 613566757, -613566756};
    private static final String NO_NODE = "Throws `IndexOutOfBoundsException` if there is no such node";
    private static final String MOVE_WRONG = "Throws `IllegalArgumentException` if node is not an item, or block is not a "
            + "block, or the block is in the item, or more than 30 blocks and groups (without the root) would be in one "
            + "another, or index is negative, or greater than the number of the other items that the block has";

    private ChangeEdges() {
    }

    static void run() {
        removes();
        removeRefuses();
        moves();
        moveRefusesNodes();
        moveRefusesKinds();
        moveRefusesBlocksInTheItem();
        moveRefusesDepth();
        moveRefusesIndexes();
        movesAgain();
        renames();
        renameRefuses();
    }

    private static void removes() {
        Check.sentence("Promise 20", "Removes an item with all that is in it.");
        String text = "a;b:{c;d:(e 1);f}g;h";
        String[] due = {"[b {c, d [(e 1), f]} g, h]", "[a, h]", "[a, b {d [(e 1), f]} g, h]", "[a, b {c} g, h]",
            "[a, b {c, d [f]} g, h]", "[a, b {c, d [(e 1)]} g, h]", "[a, b {c, d [(e 1), f]} g]"};
        int[] items = {1, 3, 6, 8, 11, 15, 18};
        int[] left = {18, 5, 18, 11, 16, 18, 18};
        Check.same("tree before remove", "[a, b {c, d [(e 1), f]} g, h]", Check.tree(Check.parsed(text)));
        for (int i = 0; i < items.length; i++) {
            OffsideParser x = Check.parsed(text);
            Check.same("remove(" + items[i] + ")", left[i], x.remove(items[i]));
            Check.same("tree behind remove(" + items[i] + ")", due[i], Check.tree(x));
        }
        Check.sentence("Promise 20", "Returns the number of nodes that are left.");
        OffsideParser one = Check.parsed("a");
        Check.same("remove of the only item", 1, one.remove(1));
        Check.same("nodeCount() behind that", 1, one.nodeCount());
        OffsideParser inner = Check.parsed("a:{b}");
        Check.same("remove of the only item of a block", 4, inner.remove(4));
        Check.same("tree behind that", "[a {}]", Check.tree(inner));
        OffsideParser many = Check.parsed("1;".repeat(300));
        for (int i = 299; i >= 0; i--) {
            Check.same("remove of one of " + (i + 1), 1 + 2 * i, many.remove(i % 2 == 0 ? 1 : 1 + 2 * i));
        }
        OffsideParser deep = Check.parsed("a:".repeat(30) + "b");
        Check.same("remove of the deepest item", 91, deep.remove(91));
        Check.same("remove of the first item", 1, deep.remove(1));
    }

    private static void removeRefuses() {
        Check.sentence("Promise 20", NO_NODE);
        OffsideParser x = Check.parsed("a 1 (b):{c}");
        for (int node : FAR) {
            Check.refuses("remove(" + node + ")", OUTSIDE, () -> x.remove(node));
        }
        Check.refuses("remove(9) of 9 nodes", OUTSIDE, () -> x.remove(9));
        Check.refuses("remove(1) of a new object", OUTSIDE, () -> new OffsideParser().remove(1));
        OffsideParser y = Check.parsed("a;b");
        y.remove(3);
        Check.refuses("remove(3) again", OUTSIDE, () -> y.remove(3));
        Check.sentence("Promise 20", "Throws `IllegalArgumentException` if it is not an item");
        for (int node = 0; node < 9; node++) {
            int at = node;
            if (node != 1 && node != 7) {
                Check.refuses("remove(" + node + ") of kind " + x.kind(node), WRONG, () -> x.remove(at));
            }
        }
        Check.refuses("remove(0) of a new object", WRONG, () -> new OffsideParser().remove(0));
        Check.same("remove(7), an item", 7, x.remove(7));
        Check.same("remove(1), an item", 1, x.remove(1));
    }

    private static void moves() {
        Check.sentence("Promise 21", "Moves an item with all that is in it.");
        move("a:{b (1)};c", 1, 0, 1, "[c, a {b (1)}]", 3);
        move("a:{b (1)};c:{}", 1, 10, 0, "[c {a {b (1)}}]", 4);
        move("a:{b:c;d};e", 4, 0, 0, "[b [c, d], a {}, e]", 1);
        Check.sentence("Promise 21", "Returns the number that the item has afterwards.");
        move("a", 1, 0, 0, "[a]", 1);
        move("a;b", 1, 0, 1, "[b, a]", 3);
        move("a;b", 3, 0, 0, "[b, a]", 1);
        move("a;b", 3, 0, 1, "[a, b]", 3);
        move("a:{};b c", 4, 3, 0, "[a {b c}]", 4);
        move("a b;c:{}", 1, 6, 0, "[c {a b}]", 4);
        move("a:{b};c", 4, 0, 0, "[b, a {}, c]", 1);
        move("a:{b};c", 4, 0, 1, "[a {}, b, c]", 4);
        move("a:{b};c", 4, 0, 2, "[a {}, c, b]", 6);
        move("a:{b}:{c}", 4, 6, 1, "[a {} {c, b}]", 7);
        move("a:{b}:{c}", 7, 3, 0, "[a {c, b} {}]", 4);
    }

    private static void move(String text, int node, int block, int index, String tree, int due) {
        OffsideParser x = Check.parsed(text);
        String call = "move(" + node + ", " + block + ", " + index + ") of \"" + text + "\"";
        Check.same(call, due, x.move(node, block, index));
        Check.same("tree behind " + call, tree, Check.tree(x));
        Check.same("place behind " + call, due, x.child(x.parent(due), index));
    }

    /** What is moved has new depths, and keeps its lines, columns and values. */
    private static void movesAgain() {
        Check.sentence("Promise 21", "Moves an item with all that is in it.");
        OffsideParser x = Check.parsed("a:{b:{c}};\n d (1)");
        x.move(9, 6, 1);
        Check.same("tree behind move down", "[a {b {c, d (1)}}]", Check.tree(x));
        depths(x, 0, 1, 1, 1, 2, 2, 2, 3, 3, 3, 3, 3, 3);
        Check.same("places behind move down", "0:0 0:0 0:0 0:2 0:3 0:3 0:5 0:6 0:6 1:1 1:1 1:3 1:4", Check.places(x));
        x.move(4, 0, 0);
        Check.same("tree behind move up", "[b {c, d (1)}, a {}]", Check.tree(x));
        depths(x, 0, 1, 1, 1, 2, 2, 2, 2, 2, 2, 1, 1, 1);
        Check.same("places behind move up", "0:0 0:3 0:3 0:5 0:6 0:6 1:1 1:1 1:3 1:4 0:0 0:0 0:2", Check.places(x));
        OffsideParser y = Check.parsed("a:".repeat(29) + "b\nc:{}\n()");
        int deepest = 87;
        Check.same("an empty block to 29 blocks", 88, y.move(y.child(0, 1), deepest, 0));
        Check.refuses("a group to the block that is the 30th now", WRONG, () -> y.move(y.child(0, 1), 90, 0));
        Check.same("the item with the empty block back to the root", 1, y.move(88, 0, 0));
        Check.same("a group to its block", 4, y.move(y.child(0, 2), 3, 0));
        Check.refuses("both of them to 29 blocks", WRONG, () -> y.move(1, y.nodeCount() - 3, 0));
        Check.same("kind of the block that they go to next", 0, y.kind(y.nodeCount() - 6));
        Check.same("both of them to 28 blocks", y.nodeCount() - 10, y.move(1, y.nodeCount() - 6, 0));
    }

    private static void depths(OffsideParser x, int... due) {
        for (int node = 0; node < due.length; node++) {
            Check.same("depth(" + node + ")", due[node], x.depth(node));
        }
    }

    private static void moveRefusesNodes() {
        Check.sentence("Promise 21", "Throws `IndexOutOfBoundsException` if one of the nodes does not exist");
        OffsideParser x = Check.parsed("a:{b};c");
        for (int node : FAR) {
            Check.refuses("move(" + node + ", 0, 0)", OUTSIDE, () -> x.move(node, 0, 0));
            Check.refuses("move(1, " + node + ", 0)", OUTSIDE, () -> x.move(1, node, 0));
            Check.refuses("move(" + node + ", " + node + ", 0)", OUTSIDE, () -> x.move(node, node, 0));
            Check.refuses("move(" + node + ", 2, -1), all wrong", OUTSIDE, () -> x.move(node, 2, -1));
            Check.refuses("move(0, " + node + ", -1), all wrong", OUTSIDE, () -> x.move(0, node, -1));
        }
        Check.refuses("move(8, 0, 0) of 8 nodes", OUTSIDE, () -> x.move(8, 0, 0));
        Check.refuses("move(6, 8, 0) of 8 nodes", OUTSIDE, () -> x.move(6, 8, 0));
        Check.refuses("move(2, 8, 0), a word to no node", OUTSIDE, () -> x.move(2, 8, 0));
        Check.refuses("move(8, 2, 0), no node to a word", OUTSIDE, () -> x.move(8, 2, 0));
        Check.refuses("move(6, 8, -1)", OUTSIDE, () -> x.move(6, 8, -1));
        Check.refuses("move(8, 0, 99)", OUTSIDE, () -> x.move(8, 0, 99));
        Check.refuses("move(1, 0, 0) of a new object", OUTSIDE, () -> new OffsideParser().move(1, 0, 0));
        Check.same("move(6, 3, 0), which exist", 4, x.move(6, 3, 0));
    }

    private static void moveRefusesKinds() {
        Check.sentence("Promise 21", MOVE_WRONG);
        OffsideParser x = Check.parsed("a 1 (b):{c};d:e");
        int[] kinds = {0, 1, 2, 3, 4, 2, 0, 1, 2, 1, 2, 0, 1, 2};
        Check.same("nodes for move", kinds.length, x.nodeCount());
        for (int i = 0; i < kinds.length; i++) {
            int node = i;
            if (kinds[i] != 1) {
                Check.refuses("move(" + i + ", 0, 0), kind " + kinds[i], WRONG, () -> x.move(node, 0, 0));
                Check.refuses("move(" + i + ", 6, 0), kind " + kinds[i], WRONG, () -> x.move(node, 6, 0));
            }
            if (kinds[i] != 0) {
                Check.refuses("move(9, " + i + ", 0) to kind " + kinds[i], WRONG, () -> x.move(9, node, 0));
                Check.refuses("move(7, " + i + ", 0) to kind " + kinds[i], WRONG, () -> x.move(7, node, 0));
            }
        }
        Check.same("move(9, 6, 0), an item to a block", 7, x.move(9, 6, 0));
    }

    private static void moveRefusesBlocksInTheItem() {
        Check.sentence("Promise 21", MOVE_WRONG);
        OffsideParser x = Check.parsed("a:{b:{c}:{}};d:{}");
        Check.same("tree for move", "[a {b {c} {}}, d {}]", Check.tree(x));
        Check.refuses("move(1, 3, 0), its first block", WRONG, () -> x.move(1, 3, 0));
        Check.refuses("move(1, 6, 0), a block in that", WRONG, () -> x.move(1, 6, 0));
        Check.refuses("move(1, 9, 0), the last block in it", WRONG, () -> x.move(1, 9, 0));
        Check.refuses("move(4, 6, 0)", WRONG, () -> x.move(4, 6, 0));
        Check.refuses("move(4, 9, 0)", WRONG, () -> x.move(4, 9, 0));
        Check.refuses("move(10, 12, 0)", WRONG, () -> x.move(10, 12, 0));
        Check.same("move(4, 3, 0), the block that it is in", 4, x.move(4, 3, 0));
        Check.same("move(7, 9, 0), the next block", 8, x.move(7, 9, 0));
        Check.same("move(1, 12, 0), the block behind it", 4, x.move(1, 12, 0));
        Check.same("tree behind that", "[d {a {b {} {c}}}]", Check.tree(x));
    }

    /** A text with an item in so many blocks, and behind it the items to be moved there. */
    private static OffsideParser nested(int blocks, String rest) {
        return Check.parsed("a:".repeat(blocks) + "z\n" + rest);
    }

    private static void depthEdge(String item, int height) {
        for (int blocks = 29 - height; blocks <= 31 - height && blocks <= 30; blocks++) {
            OffsideParser x = nested(blocks, item);
            int node = x.child(0, 1);
            int block = 3 * blocks;
            String call = "move of \"" + item + "\" to a block in " + blocks + " blocks";
            Check.same("kind of that block", 0, x.kind(block));
            if (blocks + height > 30) {
                long sum = x.digest();
                Check.refuses(call, WRONG, () -> x.move(node, block, 0));
                Check.same("digest() behind refused " + call, sum, x.digest());
            } else {
                Check.same(call, block + 1, x.move(node, block, 0));
            }
        }
    }

    /** Blocks and groups in the items before and behind the one that is moved do not count. */
    private static void depthBesideEdge(String beside) {
        OffsideParser x = nested(30, beside + "\nb\n" + beside);
        Check.same("items of the root", 4, x.childCount(0));
        Check.same("move to 30 blocks from between two \"" + beside + "\"", 91, x.move(x.child(0, 2), 90, 0));
    }

    private static void moveRefusesDepth() {
        Check.sentence("Promise 21", MOVE_WRONG);
        depthEdge("b", 0);
        depthEdge("1 2", 0);
        depthEdge("()", 1);
        depthEdge("(b)", 1);
        depthEdge("b:", 1);
        depthEdge("b:{}", 1);
        depthEdge("b:c", 1);
        depthEdge("b:{c};", 1);
        depthEdge("()():{}:{}", 1);
        depthEdge("(())", 2);
        depthEdge("b:(c)", 2);
        depthEdge("b:c:", 2);
        depthEdge("()(())():{}", 2);
        depthEdge("b:{c:{d}e}", 2);
        depthEdge("b:{c:{(d)}e}", 3);
        depthEdge("b:{(((c)))}:{}", 4);
        depthEdge("(".repeat(28) + ")".repeat(28), 28);
        for (String beside : new String[] {"()", "(())", "(c)", "c:", "c:{}", "c:d", "c:d:"}) {
            depthBesideEdge(beside);
        }
        OffsideParser thirty = Check.parsed("a;" + "b:".repeat(30) + "c");
        Check.same("30 blocks within the root", 1, thirty.move(3, 0, 0));
        OffsideParser groups = Check.parsed("a;" + "(".repeat(30) + ")".repeat(30));
        Check.same("30 groups within the root", 1, groups.move(3, 0, 0));
        OffsideParser one = Check.parsed("a:{};" + "(".repeat(30) + ")".repeat(30));
        Check.refuses("30 groups to a block", WRONG, () -> one.move(4, 3, 0));
        OffsideParser within = Check.parsed("a:".repeat(29) + "b;c:");
        Check.same("an empty block in 29 blocks, to its own block", 88, within.move(within.child(87, 1), 87, 0));
        OffsideParser deepest = Check.parsed("a:".repeat(30) + "b;c");
        Check.same("an item in 30 blocks, to its own block", 93, deepest.move(91, 90, 1));
        OffsideParser higher = Check.parsed("a:".repeat(29) + "(b);c");
        Check.same("a group in 29 blocks, to the block around them", 85, higher.move(88, 84, 0));
    }

    private static void moveRefusesIndexes() {
        Check.sentence("Promise 21", MOVE_WRONG);
        int[] far = {Integer.MIN_VALUE, Integer.MAX_VALUE, 1 << 30, -2, -1};
        for (int items = 1; items <= 4; items++) {
            int size = items;
            for (int i = 0; i < items; i++) {
                OffsideParser x = Check.parsed("1;".repeat(items));
                int node = 1 + 2 * i;
                for (int index : far) {
                    Check.refuses("move(" + node + ", 0, " + index + ")", WRONG, () -> x.move(node, 0, index));
                }
                Check.refuses("move to " + size + " of " + size + " items, its own block", WRONG,
                        () -> x.move(node, 0, size));
                Check.same("move to " + (size - 1) + " of them", 2 * size - 1, x.move(node, 0, size - 1));
                OffsideParser y = Check.parsed("1:{" + "2;".repeat(items) + "};3");
                int last = y.child(0, 1);
                for (int index : far) {
                    Check.refuses("move(" + last + ", 3, " + index + ")", WRONG, () -> y.move(last, 3, index));
                }
                Check.refuses("move to " + (size + 1) + " of " + size + " items, another block", WRONG,
                        () -> y.move(last, 3, size + 1));
                Check.same("move to " + size + " of them", 4 + 2 * size, y.move(last, 3, size));
            }
        }
        OffsideParser empty = Check.parsed("a:{};b");
        Check.refuses("move to 1 of an empty block", WRONG, () -> empty.move(4, 3, 1));
        Check.refuses("move to -1 of an empty block", WRONG, () -> empty.move(4, 3, -1));
        Check.same("move to 0 of an empty block", 4, empty.move(4, 3, 0));
        OffsideParser many = Check.parsed("1;".repeat(300));
        Check.refuses("move to 300 of 300", WRONG, () -> many.move(1, 0, 300));
        Check.same("move to 299 of 300", 599, many.move(1, 0, 299));
    }

    private static void renames() {
        Check.sentence("Promise 22", "Changes a word.");
        OffsideParser x = Check.parsed("a ab abcdefghi a");
        x.rename(2, Check.pack("Zz09Zz09"));
        Check.same("tree behind rename", "[Zz09Zz09 ab abcdefghi a]", Check.tree(x));
        x.rename(4, Check.pack("q"));
        Check.same("tree behind rename of a long word", "[Zz09Zz09 ab q a]", Check.tree(x));
        x.rename(4, Check.pack("rstuvwxy"));
        x.rename(3, Check.pack("cdefghij"));
        x.rename(2, Check.pack("k"));
        Check.same("tree behind more of them", "[k cdefghij rstuvwxy a]", Check.tree(x));
        x.rename(5, Check.pack("a"));
        Check.same("tree behind rename to the same", "[k cdefghij rstuvwxy a]", Check.tree(x));
        OffsideParser longest = Check.parsed("a".repeat(600));
        longest.rename(2, Check.pack("b1"));
        Check.same("tree behind rename of the longest", "[b1]", Check.tree(longest));
        OffsideParser moved = Check.parsed("a;b;c");
        moved.move(1, 0, 2);
        moved.rename(6, Check.pack("first"));
        moved.remove(1);
        moved.rename(2, Check.pack("third"));
        Check.same("tree behind move, remove and rename", "[third, first]", Check.tree(moved));
        Check.sentence("Promise 22", "Returns the length of the new word.");
        OffsideParser y = Check.parsed("a");
        for (int size = 1; size <= 8; size++) {
            Check.same("rename to " + size + " letters", size, y.rename(2, Check.pack("b".repeat(size))));
            Check.same("value behind that", size, y.value(2));
        }
        for (int place = 0; place < 8; place++) {
            Check.same("rename to a letter in place " + place, 1, y.rename(2, (long) 'c' << 8 * place));
            Check.same("tree behind that", "[c]", Check.tree(y));
        }
        Check.same("rename with 0 between", 3, y.rename(2, 0x6100003100004200L));
        Check.same("tree behind that", "[a1B]", Check.tree(y));
    }

    private static void renameRefuses() {
        Check.sentence("Promise 22", NO_NODE);
        OffsideParser x = Check.parsed("a 1 (b):{c}");
        for (int node : FAR) {
            Check.refuses("rename(" + node + ", a)", OUTSIDE, () -> x.rename(node, 'a'));
            Check.refuses("rename(" + node + ", nothing)", OUTSIDE, () -> x.rename(node, 0L));
            Check.refuses("rename(" + node + ", -1)", OUTSIDE, () -> x.rename(node, -1L));
        }
        Check.refuses("rename(9, a) of 9 nodes", OUTSIDE, () -> x.rename(9, 'a'));
        Check.refuses("rename(9, 1) of 9 nodes", OUTSIDE, () -> x.rename(9, '1'));
        Check.refuses("rename(1, a) of a new object", OUTSIDE, () -> new OffsideParser().rename(1, 'a'));
        Check.sentence("Promise 22",
                "Throws `IllegalArgumentException` if the node is not a word, or the bytes are not a word");
        for (int node : new int[] {0, 1, 3, 4, 6, 7}) {
            Check.refuses("rename(" + node + ", a) of kind " + x.kind(node), WRONG, () -> x.rename(node, 'a'));
            Check.refuses("rename(" + node + ", 0) of kind " + x.kind(node), WRONG, () -> x.rename(node, 0L));
        }
        for (int b = 0; b < 256; b++) {
            long first = b;
            OffsideParser y = Check.parsed("old");
            boolean letter = (b >= 'A' && b <= 'Z') || (b >= 'a' && b <= 'z');
            boolean digit = b >= '0' && b <= '9';
            byByte(y, "rename to byte " + b, letter ? 1 : 0, first);
            byByte(y, "rename to x and byte " + b, letter || digit ? 2 : b == 0 ? 1 : 0, 'x' << 8 | first);
            byByte(y, "rename to byte " + b + " and x", letter ? 2 : b == 0 ? 1 : 0, first << 8 | 'x');
            byByte(y, "rename to seven and byte " + b, letter || digit ? 8 : b == 0 ? 7 : 0, 0x6161616161616100L | first);
            byByte(y, "rename to byte " + b + " and seven", letter ? 8 : b == 0 ? 7 : 0, first << 56 | 0x61616161616161L);
        }
        Check.refuses("rename(2, nothing)", WRONG, () -> x.rename(2, 0L));
        Check.refuses("rename(2, -1)", WRONG, () -> x.rename(2, -1L));
        Check.refuses("rename(2, MIN)", WRONG, () -> x.rename(2, Long.MIN_VALUE));
        Check.refuses("rename(2, MAX)", WRONG, () -> x.rename(2, Long.MAX_VALUE));
        Check.refuses("rename(2, a number)", WRONG, () -> x.rename(2, Check.pack("12345678")));
        Check.refuses("rename(2, two words)", WRONG, () -> x.rename(2, Check.pack("ab cd")));
        Check.same("tree behind refused renames", "[a 1 (b) {c}]", Check.tree(x));
    }

    /** A due length of 0 stands for a refused call, which leaves the word as it was. */
    private static void byByte(OffsideParser x, String call, int due, long bytes) {
        x.rename(2, Check.pack("old"));
        if (due > 0) {
            Check.same(call, due, x.rename(2, bytes));
            Check.same("value behind " + call, due, x.value(2));
        } else {
            Check.refuses(call, WRONG, () -> x.rename(2, bytes));
            Check.same("tree behind " + call, "[old]", Check.tree(x));
        }
    }
}
