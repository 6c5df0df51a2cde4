/** The edges of 'Tree', 'Parsing' and the repairs in the description, and promises 5 to 7. */
final class ParsingEdges {
    private static final Class<IndexOutOfBoundsException> OUTSIDE = IndexOutOfBoundsException.class;
    private static final String TEXT = "Description";
    private static final String THIRTY = "a:".repeat(30);
    private static final String THIRTY_OPEN = "[a ".repeat(30);
    private static final String THIRTY_SHUT = "]".repeat(30);

    private ParsingEdges() {
    }

    static void run() {
        kindsOfNodes();
        order();
        innermost();
        columnOfTheRoot();
        currentItems();
        stepsOfSkippedTokens();
        groups();
        bracesBehindColons();
        blocksBehindColons();
        emptyBlocksBehindColons();
        closedByColumns();
        columnsThatFit();
        columnsThatDoNot();
        addedToItems();
        semicolons();
        colons();
        openingBraces();
        closingBraces();
        closingBrackets();
        deepBrackets();
        deepColons();
        deepMixed();
        openAtTheEnd();
        colonAtTheEnd();
        kindsOfRepairs();
        placesOfBlocks();
        parseEdges();
        parseBehindAnotherText();
        repairEdges();
    }

    private static OffsideParser due(String text, String tree, String repairs) {
        return Check.parses(text, tree, repairs);
    }

    private static void places(String text, String places) {
        Check.same("places in \"" + text + "\"", places, Check.places(Check.parsed(text)));
    }

    private static void kindsOfNodes() {
        Check.sentence(TEXT, "A node is a block, an item, a word, a number or a group.");
        OffsideParser x = due("a 1 ()", "[a 1 ()]", "");
        for (int node = 0; node < 5; node++) {
            Check.same("kind(" + node + ")", node, x.kind(node));
        }
        Check.sentence(TEXT, "A block has items, an item has words, numbers, groups and blocks, a group has words, "
                + "numbers and groups, all in order.");
        due("", "[]", "");
        due("()", "[()]", "");
        due("a:{}", "[a {}]", "");
        due("a 1():{b}c 2(d):e", "[a 1 () {b} c 2 (d) [e]]", "");
        due("(a 1(b)2()c)", "[(a 1 (b) 2 () c)]", "");
        Check.sentence(TEXT, "The root is a block.");
        for (String text : new String[] {"", "@", "a", "a:{", "  (", "\n"}) {
            Check.same("kind(0) of \"" + text + "\"", 0, Check.parsed(text).kind(0));
            Check.same("value(0) of \"" + text + "\"", 0, Check.parsed(text).value(0));
        }
    }

    private static void order() {
        Check.sentence(TEXT, "Nodes are numbered from 0 in this order: a node comes before its children, and a child "
                + "with all that is in it comes before the next child; so the root is 0.");
        OffsideParser x = due("(1 2)3:{4;5}6\n7", "[(1 2) 3 {4, 5} 6, 7]", "");
        int[] parents = {-1, 0, 1, 2, 2, 1, 1, 6, 7, 6, 9, 1, 0, 12};
        int[] values = {0, 0, 0, 1, 2, 3, 1, 0, 4, 0, 5, 6, 0, 7};
        for (int node = 0; node < parents.length; node++) {
            Check.same("parent(" + node + ")", parents[node], x.parent(node));
            Check.same("value(" + node + ")", values[node], x.value(node));
        }
    }

    private static void innermost() {
        Check.sentence(TEXT, "Blocks and groups are open from their beginning until they are closed; the open ones "
                + "are nested, and the innermost one counts.");
        due("a:{b:{c}d}e", "[a {b {c} d} e]", "");
        due("((a)b)c", "[((a) b) c]", "");
        due("a:{(}b", "[a {(b)}]", "STRAY 0:4, OPEN 0:6, OPEN 0:6");
        due("a:{b:c d", "[a {b [c d]}]", "OPEN 0:8");
        Check.sentence(TEXT, "A block is braced, or it has a column.");
        due("a:{\n b\nc\n  d}", "[a {b c d}]", "");
        due("a:\n b\n c\n  d", "[a [b, c d]]", "");
    }

    private static void columnOfTheRoot() {
        Check.sentence(TEXT, "The root has the column of the first token (0 if there is none) and is open first.");
        due("a\nb", "[a, b]", "");
        due("  a\n  b", "[a, b]", "");
        due("  a\n   b", "[a b]", "");
        due("  a\n b", "[a, b]", "COLUMN 1:1");
        due("@ a\n  b", "[a, b]", "STRAY 0:0");
        due("  )\n a", "[a]", "CLOSING 0:2, COLUMN 1:1");
        due(" # x\n   a\n   b\n  c", "[a, b, c]", "COLUMN 3:2");
        due("\\\n  a\n  b\n c", "[a, b, c]", "COLUMN 3:1");
        due(" ".repeat(599) + "a", "[a]", "");
        due(" ".repeat(597) + "a\nb", "[a, b]", "COLUMN 1:0");
        Check.same("parse() of no token", 1, Check.parsed("  @ # a").nodeCount());
    }

    private static void currentItems() {
        Check.sentence(TEXT, "A block that is open has a current item, or none.");
        due("a:{b}c", "[a {b} c]", "");
        due("a:{b};c", "[a {b}, c]", "");
        Check.sentence(TEXT, "A word, number or group is added to the innermost group, or to the current item of the "
                + "innermost block; if it has none, a new item is added to it first, with the line and the column of "
                + "the token, and is current.");
        due("a 1 (b)", "[a 1 (b)]", "");
        due("(a 1 (b))", "[(a 1 (b))]", "");
        due("1", "[1]", "");
        due("()", "[()]", "");
        due("a;1;(b)", "[a, 1, (b)]", "");
        places(" a; 1;\n(b)", "0:0 0:1 0:1 0:4 0:4 1:0 1:0 1:1");
        places("a:{\n  1}", "0:0 0:0 0:0 0:2 1:2 1:2");
    }

    private static void stepsOfSkippedTokens() {
        Check.sentence(TEXT, "(the steps 1 and 2 also for tokens that step 3 skips)");
        due("a:)b", "[a [] b]", "CLOSING 0:2");
        due("a:}b", "[a [] b]", "CLOSING 0:2");
        due("a:\n:b", "[a [], b]", "ALONE 1:0");
        due("a\n)b", "[a, b]", "CLOSING 1:0");
        due("a\n}b", "[a, b]", "CLOSING 1:0");
        due("a\n{b", "[a, b]", "ALONE 1:0");
        due("a\n:b", "[a, b]", "ALONE 1:0");
        due(" a\n)b", "[a, b]", "COLUMN 1:0, CLOSING 1:0");
        due(" a\n{b", "[a, b]", "COLUMN 1:0, ALONE 1:0");
        due("a:\n  b\n )c", "[a [b], c]", "COLUMN 2:1, CLOSING 2:1");
        due("a:\n  b\n :c", "[a [b], c]", "COLUMN 2:1, ALONE 2:1");
        due(THIRTY + "b\n (c)", THIRTY_OPEN + "[b]" + THIRTY_SHUT.substring(1) + ", (c)]", "COLUMN 1:1");
        due("a:".repeat(29) + "(c", "[a ".repeat(29) + "[(c)]" + "]".repeat(29), "OPEN 0:60");
        due(THIRTY + "(c", THIRTY_OPEN + "[c]" + THIRTY_SHUT, "DEEP 0:60");
    }

    private static void groups() {
        Check.sentence(TEXT, "If the innermost one is a group: a word, a number or a new group, for (, is added; for ) "
                + "the group is closed; other tokens are skipped with the repair STRAY.");
        due("(a)", "[(a)]", "");
        due("(1)", "[(1)]", "");
        due("(())", "[(())]", "");
        due("()a", "[() a]", "");
        due("(;a)", "[(a)]", "STRAY 0:1");
        due("(:a)", "[(a)]", "STRAY 0:1");
        due("({a)", "[(a)]", "STRAY 0:1");
        due("(}a)", "[(a)]", "STRAY 0:1");
        due("(a:{b})", "[(a b)]", "STRAY 0:2, STRAY 0:3, STRAY 0:5");
        due("(a:)b", "[(a) b]", "STRAY 0:2");
        due("a:{(b}c)}", "[a {(b c)}]", "STRAY 0:5");
        due("  (a\nb\n;\n   c)", "[(a b c)]", "STRAY 2:0");
        due("(a\n;\n)\nb", "[(a), b]", "STRAY 1:0");
    }

    private static void bracesBehindColons() {
        Check.sentence(TEXT, "If the token directly before it was a : that was not skipped, then: if this token is {, "
                + "a braced block is added to the current item, and is open (and this token is done).");
        due("a:{", "[a {}]", "OPEN 0:3");
        due("a:{}", "[a {}]", "");
        due("a:\n{b}", "[a {b}]", "");
        due("a:@{b}", "[a {b}]", "STRAY 0:2");
        due("a:#\n\\\n{b}", "[a {b}]", "");
        due("  a:\n{b}c", "[a {b} c]", "");
        due("a:\n  b:\n{c}d", "[a [b {c} d]]", "");
        due("a:{b:{c}}", "[a {b {c}}]", "");
        due("a: b {c}", "[a [b c]]", "ALONE 0:5, CLOSING 0:7");
        due(":{a}", "[a]", "ALONE 0:0, ALONE 0:1, CLOSING 0:3");
        due("a::{b}", "[a [] {b}]", "");
        Check.same("value of a braced block", 1, Check.parsed("a:{").value(3));
        Check.same("value of another block", 0, Check.parsed("a:b").value(3));
    }

    private static void blocksBehindColons() {
        Check.sentence(TEXT, "If it is a word, a number or (, and the innermost block is braced or has a smaller column "
                + "than the token, a block with the column of the token is added to the current item, and is open; "
                + "then step 2 is left out.");
        due("a:b", "[a [b]]", "");
        due("a:1", "[a [1]]", "");
        due("a:(b)", "[a [(b)]]", "");
        due("a:\n b\n c", "[a [b, c]]", "");
        due("a:\nb\n c", "[a [], b c]", "");
        due("a:\n 1\n 2", "[a [1, 2]]", "");
        due("a:\n (1)\n (2)", "[a [(1), (2)]]", "");
        due("  a:\n   b", "[a [b]]", "");
        due("  a:\n  b", "[a [], b]", "");
        due("  a:\n b", "[a [], b]", "COLUMN 1:1");
        due("a:\n  b:\n   c\n  d", "[a [b [c], d]]", "");
        due("a:{b:\nc\nd}", "[a {b [c, d]}]", "");
        due("a:{b:\n1}", "[a {b [1]}]", "");
        due("a:{b:\n(c)\nd}", "[a {b [(c), d]}]", "");
        due("  a:{b:\nc}", "[a {b [c]}]", "");
    }

    private static void emptyBlocksBehindColons() {
        Check.sentence(TEXT, "Otherwise an empty block with the column of the token is added to the current item.");
        due("a:\nb", "[a [], b]", "");
        due("a:\n1", "[a [], 1]", "");
        due("a:\n(b)", "[a [], (b)]", "");
        due("a:\\\nb", "[a [] b]", "");
        due(" a:\\\nb", "[a [] b]", "");
        due(" a:\\\n b", "[a [] b]", "");
        due(" a:\\\n  b", "[a [b]]", "");
        due("a:;b", "[a [], b]", "");
        due("a::;b", "[a [] [], b]", "");
        due("a:)", "[a []]", "CLOSING 0:2");
        due("a:}", "[a []]", "CLOSING 0:2");
        due("a:{b:}c", "[a {b []} c]", "");
        due("a:{b:;c}", "[a {b [], c}]", "");
        places("a:\nb", "0:0 0:0 0:0 1:0 1:0 1:0");
        places("a:  ;", "0:0 0:0 0:0 0:4");
        places("a: : b", "0:0 0:0 0:0 0:3 0:5 0:5 0:5");
        places("a:{b: }", "0:0 0:0 0:0 0:2 0:3 0:3 0:6");
    }

    private static void closedByColumns() {
        Check.sentence(TEXT, "If the token is first in its line, and the innermost block has a column: as long as the "
                + "innermost block has a column greater than that of the token, and is not the root, it is closed.");
        due("a:\n  b\nc", "[a [b], c]", "");
        due("a:\n  b\n  c", "[a [b, c]]", "");
        due("a:\n  b\n   c", "[a [b c]]", "");
        due("a:\n b:\n  c:\n   d\ne", "[a [b [c [d]]], e]", "");
        due("a:\n b:\n  c:\n   d\n e", "[a [b [c [d]], e]]", "");
        due("a:\n b:\n  c:\n   d\n  e", "[a [b [c [d], e]]]", "");
        due("a: b\\\nc", "[a [b c]]", "");
        due("a: b;c d", "[a [b, c d]]", "");
        due("a:{b:{ c: d\ne}f}", "[a {b {c [d] e} f}]", "");
        due("  a:{\nb}c", "[a {b} c]", "");
        due("  a:  b:{\nc}d", "[a [b {c} d]]", "");
        due(THIRTY + "b\nc", THIRTY_OPEN + "[b]" + THIRTY_SHUT.substring(1) + ", c]", "");
    }

    private static void columnsThatFit() {
        Check.sentence(TEXT, "if it is that of the token, the block has no current item any more");
        due("a\nb", "[a, b]", "");
        due("a\n b", "[a b]", "");
        due("a:\n  b\n  c", "[a [b, c]]", "");
        due("a:{b\nc}", "[a {b c}]", "");
        due("a:{  b:c\n     d}", "[a {b [c] d}]", "");
        due("a\n:b", "[a, b]", "ALONE 1:0");
        due("a\n;b", "[a, b]", "");
        due("a:\n b\n", "[a [b]]", "");
    }

    private static void columnsThatDoNot() {
        Check.sentence(TEXT, "if it is greater, or if it is smaller and a block was closed just now, that is the repair "
                + "COLUMN, and the block has no current item any more.");
        due(" a\nb", "[a, b]", "COLUMN 1:0");
        due(" a\nb\nc", "[a, b, c]", "COLUMN 1:0, COLUMN 2:0");
        due(" a\nb\n c", "[a, b, c]", "COLUMN 1:0");
        due("  a:\n   b\nc", "[a [b], c]", "COLUMN 2:0");
        due("a:\n  b\n c", "[a [b], c]", "COLUMN 2:1");
        due("a:\n  b\n c\n d", "[a [b], c d]", "COLUMN 2:1");
        due("a\n  b\n c", "[a b c]", "");
        due("a:\n b:\n   c\n  d", "[a [b [c], d]]", "COLUMN 3:2");
        due("a:\n b:\n   c:\n     d\n    e", "[a [b [c [d], e]]]", "COLUMN 4:4");
        due("a:{b:\n   c\n  d}", "[a {b [c] d}]", "");
        due("a:\n  b\n :c", "[a [b], c]", "COLUMN 2:1, ALONE 2:1");
        due("a:\n  b\n ;c", "[a [b], c]", "COLUMN 2:1");
    }

    private static void addedToItems() {
        Check.sentence(TEXT, "A word, a number and a group are added; a group, for (, is open.");
        due("a", "[a]", "");
        due("1", "[1]", "");
        due("(", "[()]", "OPEN 0:1");
        due("a b 1 2()(c", "[a b 1 2 () (c)]", "OPEN 0:11");
    }

    private static void semicolons() {
        Check.sentence(TEXT, "For ; the innermost block has no current item any more.");
        due(";", "[]", "");
        due(";".repeat(600), "[]", "");
        due(";a", "[a]", "");
        due("a;", "[a]", "");
        due("a;;b", "[a, b]", "");
        due("a:b;c", "[a [b, c]]", "");
        due("a:{;b;};c", "[a {b}, c]", "");
        due("a;\n b", "[a, b]", "");
    }

    private static void colons() {
        Check.sentence(TEXT, "For : the block is begun by what follows, as said in 1; but if the innermost block has no "
                + "current item, the : is skipped with the repair ALONE.");
        due("a:b", "[a [b]]", "");
        due(":", "[]", "ALONE 0:0");
        due("::a", "[a]", "ALONE 0:0, ALONE 0:1");
        Check.same("repairs of 600 colons", 600, Check.parsed(":".repeat(600)).repairCount());
        due("a;:b", "[a, b]", "ALONE 0:2");
        due("a:{:b}", "[a {b}]", "ALONE 0:3");
        due("a:{b;:c}", "[a {b, c}]", "ALONE 0:5");
        due("a:{}:b", "[a {} [b]]", "");
        due("a\n:b", "[a, b]", "ALONE 1:0");
        due("a\n :b", "[a [b]]", "");
        due("1:2", "[1 [2]]", "");
        due("():a", "[() [a]]", "");
        due(":\nb", "[b]", "ALONE 0:0");
        due(":", "[]", "ALONE 0:0");
    }

    private static void openingBraces() {
        Check.sentence(TEXT, "A { is skipped with the repair ALONE.");
        due("{", "[]", "ALONE 0:0");
        due("a{b", "[a b]", "ALONE 0:1");
        due("a:{{", "[a {}]", "ALONE 0:3, OPEN 0:4");
        due("a;:{b", "[a, b]", "ALONE 0:2, ALONE 0:3");
        due("a:b{c", "[a [b c]]", "ALONE 0:3");
        due("a:;{b", "[a [], b]", "ALONE 0:3");
    }

    private static void closingBraces() {
        Check.sentence(TEXT, "For } all blocks within the innermost braced block that is open are closed, and this "
                + "block, too; if no braced block is open, it is skipped with the repair CLOSING.");
        due("}", "[]", "CLOSING 0:0");
        due("a}b", "[a b]", "CLOSING 0:1");
        due("a:b}c", "[a [b c]]", "CLOSING 0:3");
        due("a:{}}b", "[a {} b]", "CLOSING 0:4");
        due("a:{b}c", "[a {b} c]", "");
        due("a:{b:c:d}e", "[a {b [c [d]]} e]", "");
        due("a:{b:{c:d}e}f", "[a {b {c [d]} e} f]", "");
        due("a:{b:{c:d}}e", "[a {b {c [d]}} e]", "");
        due("a:b:{c}d}e", "[a [b {c} d e]]", "CLOSING 0:8");
        due("a:{".repeat(30) + "}".repeat(30), "[" + "a {".repeat(30) + "}".repeat(30) + "]", "");
        due("a:{".repeat(30) + "}".repeat(31), "[" + "a {".repeat(30) + "}".repeat(30) + "]", "CLOSING 0:120");
        due("a:{" + "a:".repeat(29) + "b}c", "[a {" + "a [".repeat(29) + "b" + "]".repeat(29) + "} c]", "");
    }

    private static void closingBrackets() {
        Check.sentence(TEXT, "A ) is skipped with the repair CLOSING.");
        due(")", "[]", "CLOSING 0:0");
        due("a)b", "[a b]", "CLOSING 0:1");
        due("())a", "[() a]", "CLOSING 0:2");
        due("a:{)b}", "[a {b}]", "CLOSING 0:3");
        due("(".repeat(30) + ")".repeat(31), "[" + "(".repeat(30) + ")".repeat(30) + "]", "CLOSING 0:60");
    }

    private static final String DEEP = "A (, or a : that is not skipped otherwise, is skipped with the repair DEEP if 30 "
            + "blocks and groups, without the root, are open.";

    private static void deepBrackets() {
        Check.sentence(TEXT, DEEP);
        String open29 = "(".repeat(29);
        String open30 = "(".repeat(30);
        String shut29 = ")".repeat(29);
        String shut30 = ")".repeat(30);
        due(open29 + "(a)" + shut29, "[" + open30 + "a" + shut30 + "]", "");
        due(open30 + "(a)" + shut29, "[" + open30 + "a" + shut30 + "]", "DEEP 0:30");
        due(open30 + "(a)b" + shut29 + "c", "[" + open30 + "a) b" + shut29 + " c]", "DEEP 0:30");
        due(open30 + "((" + shut30, "[" + open30 + shut30 + "]", "DEEP 0:30, DEEP 0:31");
        due(open30 + ")(" + shut30, "[" + open29 + "() ()" + shut29 + "]", "");
        due(open30 + "):(" + shut30, "[" + open29 + "() ()" + shut29 + "]", "STRAY 0:31");
        due(THIRTY + "b(c)", THIRTY_OPEN + "[b c]" + THIRTY_SHUT, "DEEP 0:61, CLOSING 0:63");
        due("a:".repeat(29) + "b(c)", "[a ".repeat(29) + "[b (c)]" + "]".repeat(29), "");
        due("a:".repeat(28) + "b((c))", "[a ".repeat(28) + "[b ((c))]" + "]".repeat(28), "");
        due("a:".repeat(28) + "b(((c))", "[a ".repeat(28) + "[b ((c))]" + "]".repeat(28), "DEEP 0:59");
        due(THIRTY + "b\n(c)", THIRTY_OPEN + "[b]" + THIRTY_SHUT.substring(1) + ", (c)]", "");
        due(THIRTY + ";(c)", THIRTY_OPEN + "[], (c)" + THIRTY_SHUT, "");
        due("a:{".repeat(30) + "(b)}(c)", "[" + "a {".repeat(30) + "b} (c)" + "}".repeat(29) + "]",
                "DEEP 0:90, CLOSING 0:92" + ", OPEN 0:97".repeat(29));
    }

    private static void deepColons() {
        Check.sentence(TEXT, DEEP);
        due(THIRTY + "b", THIRTY_OPEN + "[b]" + THIRTY_SHUT, "");
        due(THIRTY + "b:", THIRTY_OPEN + "[b]" + THIRTY_SHUT, "DEEP 0:61");
        due(THIRTY + "b:c", THIRTY_OPEN + "[b c]" + THIRTY_SHUT, "DEEP 0:61");
        due(THIRTY + "b:{c", THIRTY_OPEN + "[b c]" + THIRTY_SHUT, "DEEP 0:61, ALONE 0:62");
        due(THIRTY + "b:;c", THIRTY_OPEN + "[b, c]" + THIRTY_SHUT, "DEEP 0:61");
        due(THIRTY + "b::", THIRTY_OPEN + "[b]" + THIRTY_SHUT, "DEEP 0:61, DEEP 0:62");
        due(THIRTY + "b;:", THIRTY_OPEN + "[b]" + THIRTY_SHUT, "ALONE 0:62");
        due("a:".repeat(29) + "b:", "[a ".repeat(29) + "[b []]" + "]".repeat(29), "");
        due("a:".repeat(29) + "b::", "[a ".repeat(29) + "[b [] []]" + "]".repeat(29), "");
        due("a:".repeat(29) + "b:{c:d}:e", "[a ".repeat(29) + "[b {c d} [e]]" + "]".repeat(29), "DEEP 0:62");
        due("a:{".repeat(30) + "b:{}", "[" + "a {".repeat(30) + "b" + "}".repeat(30) + "]",
                "DEEP 0:91, ALONE 0:92" + ", OPEN 0:94".repeat(29));
        due("a:{".repeat(30) + "}:b", "[" + "a {".repeat(30) + "} [b]" + "}".repeat(29) + "]",
                ", OPEN 0:93".repeat(29).substring(2));
        due(THIRTY + "b\n :c", THIRTY_OPEN + "[b]" + THIRTY_SHUT.substring(1) + ", c]", "COLUMN 1:1, ALONE 1:1");
        due(THIRTY + "b\n    :c", THIRTY_OPEN + "[b]" + THIRTY_SHUT.substring(3) + ", c]]]", "ALONE 1:4");
    }

    private static void deepMixed() {
        Check.sentence(TEXT, DEEP);
        due("a:{b:".repeat(14) + "a:{c:d", "[" + "a {b [".repeat(14) + "a {c [d]}" + "]}".repeat(14) + "]",
                ", OPEN 0:76".repeat(15).substring(2));
        due("a:{b:".repeat(15) + "c:d", "[" + "a {b [".repeat(15) + "c d" + "]}".repeat(15) + "]",
                "DEEP 0:76" + ", OPEN 0:78".repeat(15));
        String twenty = "a:".repeat(20);
        String open = "[a ".repeat(20) + "[";
        String shut = "]" + "]".repeat(20);
        due(twenty + "(".repeat(10) + "b", open + "(".repeat(10) + "b" + ")".repeat(10) + shut,
                "OPEN 0:51, ".repeat(9) + "OPEN 0:51");
        due(twenty + "(".repeat(11) + "b", open + "(".repeat(10) + "b" + ")".repeat(10) + shut,
                "DEEP 0:50, " + "OPEN 0:52, ".repeat(9) + "OPEN 0:52");
        due("a:".repeat(29) + "((b)", "[a ".repeat(29) + "[(b)]" + "]".repeat(29), "DEEP 0:59");
    }

    private static void openAtTheEnd() {
        Check.sentence(TEXT, "At the end of the text: for a group that is open, and then for a braced block that is "
                + "open, from the inside to the outside, there is a repair OPEN with line and column of the end of "
                + "the text");
        due("(", "[()]", "OPEN 0:1");
        due("()", "[()]", "");
        due("((", "[(())]", "OPEN 0:2, OPEN 0:2");
        due("(()", "[(())]", "OPEN 0:3");
        due("a:{", "[a {}]", "OPEN 0:3");
        due("a:{}", "[a {}]", "");
        due("a:b", "[a [b]]", "");
        due("a:{b:{", "[a {b {}}]", "OPEN 0:6, OPEN 0:6");
        due("a:{b:c:{(", "[a {b [c {()}]}]", "OPEN 0:9, OPEN 0:9, OPEN 0:9");
        due("(\n", "[()]", "OPEN 1:0");
        due("(\n  ", "[()]", "OPEN 1:2");
        due("( # x", "[()]", "OPEN 0:5");
        due("(\\\n", "[()]", "OPEN 1:0");
        due("(@", "[()]", "STRAY 0:1, OPEN 0:2");
        due("(" + "\n".repeat(599), "[()]", "OPEN 599:0");
        due("(" + " ".repeat(599), "[()]", "OPEN 0:600");
        due("(".repeat(30), "[" + "(".repeat(30) + ")".repeat(30) + "]", ", OPEN 0:30".repeat(30).substring(2));
        due("", "[]", "");
    }

    private static void colonAtTheEnd() {
        Check.sentence(TEXT, "if the last token was a : that was not skipped, an empty block with the column of the end "
                + "of the text is added to the current item before that.");
        due("a:", "[a []]", "");
        due("a: # b", "[a []]", "");
        due("a:@", "[a []]", "STRAY 0:2");
        due("a:{b:", "[a {b []}]", "OPEN 0:5");
        due(":", "[]", "ALONE 0:0");
        due("a;:", "[a]", "ALONE 0:2");
        due("(:", "[()]", "STRAY 0:1, OPEN 0:2");
        due("a:b", "[a [b]]", "");
        due("a:;", "[a []]", "");
        due(THIRTY, THIRTY_OPEN + "[]" + THIRTY_SHUT, "");
        places("a:", "0:0 0:0 0:0 0:2");
        places("a:\n\n ", "0:0 0:0 0:0 2:1");
        places("a: #b", "0:0 0:0 0:0 0:5");
        places("a:\\\n", "0:0 0:0 0:0 1:0");
        Check.same("column of it in a full text", 600, Check.parsed("a".repeat(599) + ":").column(3));
    }

    private static void kindsOfRepairs() {
        Check.sentence(TEXT, "The repairs have the kinds 1 STRAY, 2 COLUMN, 3 ALONE, 4 CLOSING, 5 DEEP, 6 OPEN, and the "
                + "line and the column of the byte or token.");
        String[] texts = {" @", "  a\n b", "a\n\n:", "a )", "\n" + "(".repeat(31), "(\n  "};
        int[][] due = {{1, 0, 1}, {2, 1, 1}, {3, 2, 0}, {4, 0, 2}, {5, 1, 30}, {6, 1, 2}};
        for (int i = 0; i < texts.length; i++) {
            OffsideParser x = Check.parsed(texts[i]);
            for (int what = 0; what < 3; what++) {
                Check.same("repair(0, " + what + ") of \"" + texts[i] + "\"", due[i][what], x.repair(0, what));
            }
        }
        due("(;", "[()]", "STRAY 0:1, OPEN 0:2");
        due("a\n  {", "[a]", "ALONE 1:2");
        due("a\n  }", "[a]", "CLOSING 1:2");
        due(THIRTY + "b :", THIRTY_OPEN + "[b]" + THIRTY_SHUT, "DEEP 0:62");
    }

    private static void placesOfBlocks() {
        Check.sentence(TEXT, "A block has the line and column of the token that begins it: of its {, of the first token "
                + "in it, or, if it is empty, of the token (or the end of the text) by which this was seen");
        places("a: {b}", "0:0 0:0 0:0 0:3 0:4 0:4");
        places("a:\n {\n}", "0:0 0:0 0:0 1:1");
        places("a:\n  b", "0:0 0:0 0:0 1:2 1:2 1:2");
        places("a: ( b)", "0:0 0:0 0:0 0:3 0:3 0:3 0:5");
        places("a: 1", "0:0 0:0 0:0 0:3 0:3 0:3");
        places("a:\n\nb", "0:0 0:0 0:0 2:0 2:0 2:0");
        places("a: )", "0:0 0:0 0:0 0:3");
        places("a:\n   ", "0:0 0:0 0:0 1:3");
        Check.sentence(TEXT, "the root has line 0 and column 0, as far as line(0) and column(0) are concerned.");
        for (String text : new String[] {"", "\n  a", "   (", "\\\n \n  b:{"}) {
            Check.same("line(0) of \"" + text + "\"", 0, Check.parsed(text).line(0));
            Check.same("column(0) of \"" + text + "\"", 0, Check.parsed(text).column(0));
        }
    }

    private static void parseEdges() {
        Check.sentence("Promise 5", "Parses the text.");
        OffsideParser x = new OffsideParser();
        Check.same("parse() of an empty text", 1, x.parse());
        x.feed('a');
        Check.same("nodeCount() before parse()", 1, x.nodeCount());
        Check.same("parse()", 3, x.parse());
        Check.sentence("Promise 5", "The tree and the repairs become those of the text.");
        x.feed(Check.pack(";b)"));
        Check.same("tree before parse()", "[a]", Check.tree(x));
        Check.same("repairs before parse()", "", Check.repairs(x));
        x.parse();
        Check.same("tree behind parse()", "[a, b]", Check.tree(x));
        Check.same("repairs behind parse()", "CLOSING 0:3", Check.repairs(x));
        x.parse();
        Check.same("repairs behind another parse()", "CLOSING 0:3", Check.repairs(x));
        x.remove(1);
        x.rename(2, Check.pack("changed"));
        x.parse();
        Check.same("tree behind changes and parse()", "[a, b]", Check.tree(x));
        x.write(false);
        x.trim(0);
        x.parse();
        Check.same("tree of an empty text", "[]", Check.tree(x));
        Check.same("repairs of an empty text", "", Check.repairs(x));
        Check.same("what was written stays", (int) 'b', x.written(2));
        Check.sentence("Promise 5", "Returns the number of nodes.");
        Check.same("parse() of 600 spaces", 1, Check.fed(" ".repeat(600)).parse());
        Check.same("parse() of 600 letters", 3, Check.fed("a".repeat(600)).parse());
        Check.same("parse() of 300 items", 601, Check.fed("a;".repeat(300)).parse());
        Check.same("parse() of 599 colons", 602, Check.fed("a" + ":".repeat(599)).parse());
        Check.same("parse() of 600 brackets", 32, Check.fed("(".repeat(600)).parse());
        Check.same("parse() of many blocks", 1 + 9 * 92 + 62,
                Check.fed((THIRTY + "a\n").repeat(9) + "a:".repeat(20) + "ab").parse());
    }

    /** Texts that end in the middle of something, and texts in which that would be seen if it were kept. */
    private static void parseBehindAnotherText() {
        Check.sentence("Promise 5", "The tree and the repairs become those of the text.");
        String[] before = {"a#b", "a\\\n", "a\\", "(((", "a:{b:{", "a:b:c", "a:", "a:{b:", "      a", "@@ )", " a\nb", ";", "a;",
            "a:".repeat(30) + "b", "(".repeat(31), "\n\n\n", "abc 123", "x".repeat(600), ""};
        String[] texts = {"a", "  a\n  b\n   c", "{b}", "(b)", ")b", "}b", ":b", "b\nc:d\n @e", "a:\n  b\n c", "@", "", "a)@b}", "1",
            "\\\na: b\n   c; : d", "\\\n:a", "\\\n  (a"};
        for (String first : before) {
            for (String text : texts) {
                OffsideParser x = Check.parsed(first);
                x.trim(0);
                Check.feedText(x, text);
                x.parse();
                OffsideParser due = Check.parsed(text);
                String call = " of \"" + text + "\" behind \"" + first + "\"";
                Check.same("tree" + call, Check.tree(due), Check.tree(x));
                Check.same("repairs" + call, Check.repairs(due), Check.repairs(x));
                Check.same("places" + call, Check.places(due), Check.places(x));
            }
        }
    }

    private static void repairEdges() {
        Check.sentence("Promise 6", "Returns the number of repairs of the latest parse.");
        OffsideParser kept = Check.parsed("a;b c @");
        kept.rename(2, 'z');
        kept.move(1, 0, 1);
        kept.remove(1);
        kept.write(true);
        Check.same("repairs behind changes and write", "STRAY 0:6", Check.repairs(kept));
        OffsideParser x = Check.fed("@");
        Check.same("repairCount() before parse()", 0, x.repairCount());
        x.parse();
        Check.same("repairCount()", 1, x.repairCount());
        x.trim(0);
        Check.same("repairCount() behind trim", 1, x.repairCount());
        x.parse();
        Check.same("repairCount() of nothing", 0, x.repairCount());
        Check.same("repairCount() of a full text", 600, Check.parsed("@".repeat(600)).repairCount());
        Check.same("repairCount() of 299 wrong lines", 598, Check.parsed(" a" + "\n}".repeat(299)).repairCount());
        Check.same("repairCount() of 600 brackets", 600, Check.parsed("(".repeat(600)).repairCount());
        Check.sentence("Promise 7", "Returns this number.");
        OffsideParser y = due("@)\n (", "[()]", "STRAY 0:0, CLOSING 0:1, OPEN 1:2");
        Check.same("repair(0, 0)", 1, y.repair(0, 0));
        Check.same("repair(0, 1)", 0, y.repair(0, 1));
        Check.same("repair(2, 0)", 6, y.repair(2, 0));
        Check.same("repair(2, 2)", 2, y.repair(2, 2));
        OffsideParser full = Check.parsed("@".repeat(600));
        Check.same("repair(599, 2)", 599, full.repair(599, 2));
        Check.refuses("repair(600, 2)", OUTSIDE, () -> full.repair(600, 2));
        Check.sentence("Promise 7",
                "Throws `IndexOutOfBoundsException` if there is no such repair, or what is not 0 to 2");
        int[] numbers = {-1, 3, 4, Integer.MIN_VALUE, Integer.MAX_VALUE, 1 << 30, 1431655766, -1431655765, 715827883};
        for (int number : numbers) {
            Check.refuses("repair(" + number + ", 0)", OUTSIDE, () -> y.repair(number, 0));
            Check.refuses("repair(" + number + ", 2)", OUTSIDE, () -> y.repair(number, 2));
            Check.refuses("repair(0, " + number + ")", OUTSIDE, () -> y.repair(0, number));
            Check.refuses("repair(2, " + number + ")", OUTSIDE, () -> y.repair(2, number));
            Check.refuses("repair of both " + number, OUTSIDE, () -> y.repair(number, number));
        }
        // Two wrong numbers must not make up a right place together.
        Check.refuses("repair(1, -1)", OUTSIDE, () -> y.repair(1, -1));
        Check.refuses("repair(-1, 3)", OUTSIDE, () -> y.repair(-1, 3));
        Check.refuses("repair(3, -1)", OUTSIDE, () -> y.repair(3, -1));
        Check.refuses("repair(0, 0) without repairs", OUTSIDE, () -> Check.parsed("a").repair(0, 0));
    }
}
