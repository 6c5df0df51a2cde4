import java.util.function.IntUnaryOperator;
import java.util.function.ToIntBiFunction;

/** The edges of promises 8 to 19: what is asked about the nodes and the words. */
final class TreeEdges {
    private static final Class<IndexOutOfBoundsException> OUTSIDE = IndexOutOfBoundsException.class;
    private static final String NO_NODE = "Throws `IndexOutOfBoundsException` if there is no such node";
    /** Among them are numbers that come back into a small row when they are multiplied by its width. */
    private static final int[] FAR = {-1, -2, Integer.MIN_VALUE, Integer.MAX_VALUE, Integer.MIN_VALUE + 1, 1 << 30, 1 << 29,
        1 << 28, 536870913, 613566757, 715827883, 858993460, 1431655766, -613566756, -1431655765, -1073741824};

    private TreeEdges() {
    }

    static void run() {
        nodeCounts();
        kinds();
        parents();
        childCounts();
        children();
        lines();
        columns();
        values();
        letters();
        depths();
        finds();
        wordCounts();
    }

    /** The row of all answers, and that the nodes before the first and behind the last are refused. */
    private static void row(String call, OffsideParser x, IntUnaryOperator ask, int... due) {
        for (int node = 0; node < due.length; node++) {
            Check.same(call + "(" + node + ")", due[node], ask.applyAsInt(node));
        }
        Check.refuses(call + "(-1)", OUTSIDE, () -> ask.applyAsInt(-1));
        Check.refuses(call + "(" + due.length + "), which is behind the last", OUTSIDE, () -> ask.applyAsInt(due.length));
        Check.same("nodeCount()", due.length, x.nodeCount());
    }

    private static void refusesFar(String call, int nodes, IntUnaryOperator ask) {
        for (int node : FAR) {
            Check.refuses(call + "(" + node + ")", OUTSIDE, () -> ask.applyAsInt(node));
        }
        Check.refuses(call + "(" + nodes + ")", OUTSIDE, () -> ask.applyAsInt(nodes));
        Check.refuses(call + "(" + (nodes + 1) + ")", OUTSIDE, () -> ask.applyAsInt(nodes + 1));
        ask.applyAsInt(nodes - 1);
        ask.applyAsInt(0);
    }

    /** Makes objects whose rows may have been longer before; what is behind the end must not be seen. */
    private static OffsideParser shrunk() {
        OffsideParser x = Check.parsed("a b;c:{d (1)};e");
        x.remove(x.child(0, 2));
        x.remove(x.child(0, 1));
        return x;
    }

    private static OffsideParser parsedAgain() {
        OffsideParser x = Check.parsed("a b;c:{d (1)};e @@");
        x.trim(3);
        x.parse();
        return x;
    }

    private static void refuses(String section, String call, ToIntBiFunction<OffsideParser, Integer> ask) {
        Check.sentence(section, NO_NODE);
        OffsideParser fresh = new OffsideParser();
        refusesFar("new: " + call, 1, node -> ask.applyAsInt(fresh, node));
        OffsideParser x = Check.parsed("a:{1 (b)}");
        refusesFar(call, 8, node -> ask.applyAsInt(x, node));
        OffsideParser shrunk = shrunk();
        refusesFar("behind remove: " + call, 4, node -> ask.applyAsInt(shrunk, node));
        OffsideParser again = parsedAgain();
        refusesFar("behind parse: " + call, 4, node -> ask.applyAsInt(again, node));
    }

    private static void nodeCounts() {
        Check.sentence("Promise 8", "Returns the number of nodes.");
        Check.same("nodeCount() of a new object", 1, new OffsideParser().nodeCount());
        Check.same("nodeCount() of no item", 1, Check.parsed("@").nodeCount());
        Check.same("nodeCount() of an empty group", 3, Check.parsed("()").nodeCount());
        Check.same("nodeCount() of an empty block", 4, Check.parsed("a:").nodeCount());
        Check.same("nodeCount() of 300 numbers", 302, Check.parsed("1 ".repeat(300)).nodeCount());
        Check.same("nodeCount() behind remove", 4, shrunk().nodeCount());
        Check.same("nodeCount() behind parse", 4, parsedAgain().nodeCount());
        OffsideParser x = Check.parsed("a;b");
        x.move(1, 0, 1);
        Check.same("nodeCount() behind move", 5, x.nodeCount());
        x.trim(0);
        Check.same("nodeCount() behind trim", 5, x.nodeCount());
    }

    private static void kinds() {
        Check.sentence("Promise 9", "Returns 0 for a block, 1 for an item, 2 for a word, 3 for a number, 4 for a group.");
        OffsideParser x = Check.parsed("a:{}1()\nb:c");
        row("kind", x, x::kind, 0, 1, 2, 0, 3, 4, 1, 2, 0, 1, 2);
        refuses("Promise 9", "kind", OffsideParser::kind);
    }

    private static void parents() {
        Check.sentence("Promise 10", "Returns the number of the node whose child it is; -1 for the root.");
        OffsideParser x = Check.parsed("a:{}1(b())\nb:c");
        row("parent", x, x::parent, -1, 0, 1, 1, 1, 1, 5, 5, 0, 8, 8, 10, 11);
        Check.same("parent(0) of a new object", -1, new OffsideParser().parent(0));
        x.remove(1);
        row("parent", x, x::parent, -1, 0, 1, 1, 3, 4);
        x.remove(1);
        row("parent", x, x::parent, -1);
        refuses("Promise 10", "parent", OffsideParser::parent);
    }

    private static void childCounts() {
        Check.sentence("Promise 11", "Returns how many children it has.");
        OffsideParser x = Check.parsed("a:{}1(b())\nb:c;d");
        row("childCount", x, x::childCount, 2, 4, 0, 0, 0, 2, 0, 0, 2, 0, 2, 1, 0, 1, 0);
        Check.same("childCount(0) of a new object", 0, new OffsideParser().childCount(0));
        Check.same("childCount(0) of 300 items", 300, Check.parsed("a;".repeat(300)).childCount(0));
        Check.same("childCount(1) of 300 words", 300, Check.parsed("a ".repeat(300)).childCount(1));
        Check.same("childCount(2) of 299 words in a group", 299, Check.parsed("(" + " a".repeat(299)).childCount(2));
        Check.same("childCount(1) of 599 blocks", 600, Check.parsed("a" + ":".repeat(599)).childCount(1));
        refuses("Promise 11", "childCount", OffsideParser::childCount);
    }

    private static void children() {
        Check.sentence("Promise 12", "Returns the number of the child.");
        OffsideParser x = Check.parsed("a:{b;c}(1 2):d\ne");
        int[][] due = {{1, 14}, {2, 3, 8, 11}, {}, {4, 6}, {5}, {}, {7}, {}, {9, 10}, {}, {}, {12}, {13}, {}, {15}, {}};
        Check.same("nodes for child", due.length, x.nodeCount());
        for (int node = 0; node < due.length; node++) {
            for (int i = 0; i < due[node].length; i++) {
                Check.same("child(" + node + ", " + i + ")", due[node][i], x.child(node, i));
            }
        }
        OffsideParser items = Check.parsed("1;".repeat(300));
        Check.same("child(0, 299) of 300", 599, items.child(0, 299));
        Check.refuses("child(0, 300) of 300", OUTSIDE, () -> items.child(0, 300));
        Check.sentence("Promise 12", "Throws `IndexOutOfBoundsException` if there is no such node or child");
        for (int node = 0; node < due.length; node++) {
            int at = node;
            int size = due[node].length;
            for (int index : new int[] {-1, size, size + 1, Integer.MIN_VALUE, Integer.MAX_VALUE}) {
                Check.refuses("child(" + node + ", " + index + ")", OUTSIDE, () -> x.child(at, index));
            }
        }
        OffsideParser z = Check.parsed("a:{1 (b)}");
        for (int node : FAR) {
            Check.refuses("child(" + node + ", 0)", OUTSIDE, () -> z.child(node, 0));
            Check.refuses("child(" + node + ", -1)", OUTSIDE, () -> z.child(node, -1));
            Check.refuses("child(0, " + node + ")", OUTSIDE, () -> z.child(0, node));
        }
        Check.refuses("child(8, 0), a node too many", OUTSIDE, () -> z.child(8, 0));
        Check.refuses("child(4, 0) behind remove", OUTSIDE, () -> shrunk().child(4, 0));
        Check.refuses("child(0, 1) behind remove", OUTSIDE, () -> shrunk().child(0, 1));
        Check.refuses("child(0, 1) behind parse", OUTSIDE, () -> parsedAgain().child(0, 1));
    }

    private static void lines() {
        Check.sentence("Promise 13", "Returns the line of the token with which it begins.");
        OffsideParser x = Check.parsed("\na:\n {\n(\n1)}\nb:\n\n");
        row("line", x, x::line, 0, 1, 1, 2, 3, 3, 4, 5, 5, 7);
        Check.same("the last line", 599, Check.parsed("\n".repeat(599) + "a").line(2));
        Check.same("line(0) of a new object", 0, new OffsideParser().line(0));
        refuses("Promise 13", "line", OffsideParser::line);
    }

    private static void columns() {
        Check.sentence("Promise 14", "Returns the column of the token with which it begins.");
        OffsideParser x = Check.parsed(" a: {  ( 1)}\n b:\n\n  ");
        row("column", x, x::column, 0, 1, 1, 4, 7, 7, 9, 1, 1, 2);
        Check.same("the last column", 599, Check.parsed(" ".repeat(599) + "a").column(2));
        Check.same("column(0) of a new object", 0, new OffsideParser().column(0));
        refuses("Promise 14", "column", OffsideParser::column);
    }

    private static void values() {
        Check.sentence("Promise 15", "Returns the value of a number, the number of letters and digits of a word, 1 for a "
                + "braced block, 0 for another node.");
        OffsideParser x = Check.parsed("a:{b2}(0 999999999 1000000000)cde: 1000000007");
        row("value", x, x::value, 0, 0, 1, 1, 0, 2, 0, 0, 999999999, 0, 3, 0, 0, 7);
        Check.same("value of a word of 600", 600, Check.parsed("a".repeat(600)).value(2));
        OffsideParser empty = Check.parsed("a:;b:{}");
        row("value", empty, empty::value, 0, 0, 1, 0, 0, 1, 1);
        OffsideParser renamed = Check.parsed("a b");
        renamed.rename(2, Check.pack("abcdefgh"));
        row("value", renamed, renamed::value, 0, 0, 8, 1);
        OffsideParser moved = Check.parsed("a:{};b:c");
        moved.move(4, 3, 0);
        row("value", moved, moved::value, 0, 0, 1, 1, 0, 1, 0, 0, 1);
        refuses("Promise 15", "value", OffsideParser::value);
    }

    private static void letters() {
        Check.sentence("Promise 16",
                "Returns the byte with this index; -1 if the node is not a word, or there is no such byte.");
        OffsideParser x = Check.parsed("Zz9 12 ab:{(c)}");
        Check.same("tree for letters", "[Zz9 12 ab {(c)}]", Check.tree(x));
        for (int i = 0; i < 3; i++) {
            Check.same("letter(2, " + i + ")", (int) "Zz9".charAt(i), x.letter(2, i));
        }
        for (int index : new int[] {-1, 3, 4, 8, Integer.MIN_VALUE, Integer.MAX_VALUE}) {
            Check.same("letter(2, " + index + ")", -1, x.letter(2, index));
        }
        Check.same("letter(4, -1)", -1, x.letter(4, -1));
        Check.same("letter(4, 1)", (int) 'b', x.letter(4, 1));
        Check.same("letter(4, 2)", -1, x.letter(4, 2));
        for (int node : new int[] {0, 1, 3, 5, 6, 7}) {
            for (int index : new int[] {-1, 0, 1, Integer.MIN_VALUE, Integer.MAX_VALUE}) {
                Check.same("letter(" + node + ", " + index + ") of no word", -1, x.letter(node, index));
            }
        }
        OffsideParser longest = Check.parsed("a".repeat(599) + "b");
        Check.same("letter(2, 599)", (int) 'b', longest.letter(2, 599));
        Check.same("letter(2, 600)", -1, longest.letter(2, 600));
        OffsideParser shorter = Check.parsed("abcdefghij");
        shorter.rename(2, Check.pack("xy"));
        Check.same("letter(2, 1) behind rename", (int) 'y', shorter.letter(2, 1));
        Check.same("letter(2, 2) behind rename", -1, shorter.letter(2, 2));
        refuses("Promise 16", "letter", (y, node) -> y.letter(node, 0));
        refuses("Promise 16", "letter at -1", (y, node) -> y.letter(node, -1));
    }

    private static void depths() {
        Check.sentence("Promise 17", "Returns how many blocks it is in (itself not counted).");
        OffsideParser x = Check.parsed("a:{b:(c(1))}\nd");
        row("depth", x, x::depth, 0, 1, 1, 1, 2, 2, 2, 3, 3, 3, 3, 3, 1, 1);
        Check.same("depth(0) of a new object", 0, new OffsideParser().depth(0));
        OffsideParser blocks = Check.parsed("a:".repeat(30) + "b");
        Check.same("depth of the 30th block", 30, blocks.depth(90));
        Check.same("depth of the word in it", 31, blocks.depth(92));
        OffsideParser groups = Check.parsed("(".repeat(30) + "b");
        Check.same("depth of a word in 30 groups", 1, groups.depth(32));
        refuses("Promise 17", "depth", OffsideParser::depth);
    }

    private static void finds() {
        Check.sentence("Promise 18", "Finds a word.");
        OffsideParser x = Check.parsed("a 1 b:{a (a)}\nabcdefgh abcdefghi a1");
        Check.same("tree for find", "[a 1 b {a (a)}, abcdefgh abcdefghi a1]", Check.tree(x));
        Check.sentence("Promise 18", "Returns the number of the node that has this index among all words with just these "
                + "bytes, in ascending order; -1 if there is none.");
        int[] due = {2, 7, 9, -1, -1};
        for (int i = 0; i < due.length; i++) {
            Check.same("find(a, " + i + ")", due[i], x.find('a', i));
        }
        for (int index : new int[] {-1, -2, 3, Integer.MIN_VALUE, Integer.MAX_VALUE}) {
            Check.same("find(a, " + index + ")", -1, x.find('a', index));
        }
        Check.same("find of eight bytes", 11, x.find(Check.pack("abcdefgh"), 0));
        Check.same("find of eight bytes, 1", -1, x.find(Check.pack("abcdefgh"), 1));
        Check.same("find of the beginning of words", -1, x.find(Check.pack("abcdefg"), 0));
        Check.same("find a1", 13, x.find(Check.pack("a1"), 0));
        Check.same("find a2", -1, x.find(Check.pack("a2"), 0));
        Check.same("find A", -1, x.find('A', 0));
        Check.same("find of a number", -1, x.find('1', 0));
        for (int place = 0; place < 8; place++) {
            Check.same("find of a in place " + place, 7, x.find((long) 'a' << 8 * place, 1));
        }
        Check.same("find with 0 between", 13, x.find(0x6100000000000031L, 0));
        for (long bytes : new long[] {0L, -1L, Long.MIN_VALUE, Long.MAX_VALUE, 0x6180L, 0x610AL, 0x6120L, 0x613AL, 0xE1L}) {
            Check.same("find(" + bytes + ", 0)", -1, x.find(bytes, 0));
        }
        Check.same("find in a new object", -1, new OffsideParser().find('a', 0));
        Check.same("find of nothing in a new object", -1, new OffsideParser().find(0L, 0));
        OffsideParser many = Check.parsed("a ".repeat(300));
        Check.same("find(a, 299) of 300", 301, many.find('a', 299));
        Check.same("find(a, 300) of 300", -1, many.find('a', 300));
        Check.same("find behind remove", -1, shrunk().find('e', 0));
        Check.same("find behind parse", -1, parsedAgain().find('e', 0));
        OffsideParser changed = Check.parsed("a;b;a");
        changed.rename(2, 'b');
        changed.move(5, 0, 0);
        Check.same("find(a, 0) behind rename and move", 2, changed.find('a', 0));
        Check.same("find(b, 0) behind that", 4, changed.find('b', 0));
        Check.same("find(b, 1) behind that", 6, changed.find('b', 1));
    }

    private static void wordCounts() {
        Check.sentence("Promise 19", "Returns how many different words are in the tree.");
        Check.same("wordCount() of a new object", 0, new OffsideParser().wordCount());
        Check.same("wordCount() before parse", 0, Check.fed("a").wordCount());
        Check.same("wordCount() of no word", 0, Check.parsed("1 (2):{3}").wordCount());
        Check.same("wordCount() of one", 1, Check.parsed("a").wordCount());
        Check.same("wordCount() of one 300 times", 1, Check.parsed("a ".repeat(300)).wordCount());
        Check.same("wordCount() of small and great", 2, Check.parsed("a A").wordCount());
        Check.same("wordCount() of beginnings", 4, Check.parsed("a ab abc b").wordCount());
        Check.same("wordCount() of long ones", 3, Check.parsed("abcdefgh abcdefghi abcdefghj abcdefgh").wordCount());
        Check.same("wordCount() of words that begin alike", 2,
                Check.parsed("a".repeat(298) + "b " + "a".repeat(298) + "c").wordCount());
        Check.same("wordCount() behind remove", 2, shrunk().wordCount());
        Check.same("wordCount() behind parse", 2, parsedAgain().wordCount());
        OffsideParser x = Check.parsed("a b");
        x.rename(3, 'a');
        Check.same("wordCount() behind rename", 1, x.wordCount());
        StringBuilder most = new StringBuilder();
        for (char c = 'a'; c <= 'z'; c++) {
            most.append(c).append(' ').append((char) (c - 32)).append(' ');
        }
        Check.same("wordCount() of 52 words", 52, Check.parsed(most.toString()).wordCount());
        StringBuilder pairs = new StringBuilder();
        for (int i = 0; i < 200; i++) {
            pairs.append((char) ('a' + i / 10)).append(i % 10).append(' ');
        }
        Check.same("wordCount() of 200 words", 200, Check.parsed(pairs.toString()).wordCount());
    }
}
