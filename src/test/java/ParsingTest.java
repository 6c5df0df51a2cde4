/** Promises 5 to 7, parse, repairCount and repair: what becomes of a text, step by step of the document. */
final class ParsingTest {
    public static void main(String[] args) {
        tokens();
        commentsAndJoinedLines();
        columns();
        colons();
        braces();
        groups();
        endOfText();
        depthOfBlocks();
        depthOfGroups();
        places();
        repairEdges();
        parseAgain();
        longestTexts();
        Check.end("ParsingTest");
    }

    private static OffsideParser due(String text, String tree, String repairs) {
        return Check.parses(text, tree, repairs);
    }

    private static void tokens() {
        due("", "[]", "");
        due("  \n \n", "[]", "");
        due("a", "[a]", "");
        due("aB9z 12ab3 4", "[aB9z 12 ab3 4]", "");
        due("000 007 999999999 1000000000 12345678901", "[0 7 999999999 0 345678901]", "");
        due("99999999999999999999999999", "[999999999]", "");
        due("a;b;;c", "[a, b, c]", "");
        due("@a!b", "[a b]", "STRAY 0:0, STRAY 0:2");
        due("@\n [a", "[a]", "STRAY 0:0, STRAY 1:1");
        due("!\"$%&'*+,-./<=>?@[]^_`|~", "[]",
                "STRAY 0:0, STRAY 0:1, STRAY 0:2, STRAY 0:3, STRAY 0:4, STRAY 0:5, STRAY 0:6, STRAY 0:7, "
                + "STRAY 0:8, STRAY 0:9, STRAY 0:10, STRAY 0:11, STRAY 0:12, STRAY 0:13, STRAY 0:14, STRAY 0:15, "
                + "STRAY 0:16, STRAY 0:17, STRAY 0:18, STRAY 0:19, STRAY 0:20, STRAY 0:21, STRAY 0:22, STRAY 0:23");
        due("AZaz09", "[AZaz09]", "");
        due("a) @ ) $", "[a]", "CLOSING 0:1, STRAY 0:3, CLOSING 0:5, STRAY 0:7");
    }

    private static void commentsAndJoinedLines() {
        due("a # b: {@\nc", "[a, c]", "");
        due("#a\n#\nb#c", "[b]", "");
        due("a # b \\\nc", "[a, c]", "");
        due("a # b # \\\nc", "[a, c]", "");
        due("a \\\nb\nc", "[a b, c]", "");
        due("a\\\nb", "[a b]", "");
        due("a \\ \nb", "[a, b]", "STRAY 0:2");
        due("a \\", "[a]", "STRAY 0:2");
        due("a \\\\\nb", "[a b]", "STRAY 0:2");
        due("a \\\n\nb", "[a, b]", "");
        due("a \\\n\\\nb", "[a b]", "");
        due("a \\\n# x\nb", "[a, b]", "");
        due("  a\n \\\nb", "[a b]", "");
        due("a\n  @ b\n@c", "[a b c]", "STRAY 1:2, STRAY 2:0");
        due("a:\n  b\n@c", "[a [b], c]", "STRAY 2:0, COLUMN 2:1");
    }

    private static void columns() {
        due("a\nb\n\nc", "[a, b, c]", "");
        due("a\n b\n  c\nd", "[a b c, d]", "");
        due("  a\n  b", "[a, b]", "");
        due("  a\nb\nc\n  d\n   e", "[a, b, c, d e]", "COLUMN 1:0, COLUMN 2:0");
        due("a:\n  b\n  c\nd", "[a [b, c], d]", "");
        due("a:\n  b\n   c\n  d", "[a [b c, d]]", "");
        due("a:\n    b\n  c", "[a [b], c]", "COLUMN 2:2");
        due("a:\n  b:\n    c\nd", "[a [b [c]], d]", "");
        due("a:\n  b:\n    c\n  d", "[a [b [c], d]]", "");
        due("a:\n  b:\n    c\n d", "[a [b [c]], d]", "COLUMN 3:1");
        due("a:\n  b:\n     c\n   d", "[a [b [c], d]]", "COLUMN 3:3");
        due("a: b\n   c\n  d", "[a [b, c], d]", "COLUMN 2:2");
        due("a: b; c\n   d", "[a [b, c, d]]", "");
        due("a: b: c\n   d\ne", "[a [b [c], d], e]", "");
        due(" a:\n  b\nc", "[a [b], c]", "COLUMN 2:0");
        due("a\n; b", "[a, b]", "");
        due("a:\n  b\n;\n c", "[a [b], c]", "");
        due("a:\n  b\n )\nc", "[a [b], c]", "COLUMN 2:1, CLOSING 2:1");
        due("  a\n}", "[a]", "COLUMN 1:0, CLOSING 1:0");
        due("  a\nb c", "[a, b c]", "COLUMN 1:0");
        due("   a\nb c", "[a, b c]", "COLUMN 1:0");
        due("a:\n    b \\\n c d", "[a [b c d]]", "");
        due("  } a\nb", "[a, b]", "CLOSING 0:2, COLUMN 1:0");
        due("a:\n  b\n  ) c", "[a [b, c]]", "CLOSING 2:2");
    }

    private static void colons() {
        due(":", "[]", "ALONE 0:0");
        due(": a", "[a]", "ALONE 0:0");
        due("a; : b", "[a, b]", "ALONE 0:3");
        due("a\n: b", "[a, b]", "ALONE 1:0");
        due("a\n : b", "[a [b]]", "");
        due("a: b", "[a [b]]", "");
        due("a:1", "[a [1]]", "");
        due("a:(1 b)c", "[a [(1 b) c]]", "");
        due("a:@b", "[a [b]]", "STRAY 0:2");
        due("a: # b\n  c", "[a [c]]", "");
        due("a:\nb", "[a [], b]", "");
        due("a:\n\n b", "[a [b]]", "");
        due("a:;b", "[a [], b]", "");
        due("a::b", "[a [] [b]]", "");
        due("a:::b", "[a [] [] [b]]", "");
        due("a:\n: b", "[a [], b]", "ALONE 1:0");
        due("a:)b", "[a [] b]", "CLOSING 0:2");
        due("a:) {", "[a []]", "CLOSING 0:2, ALONE 0:4");
        due("a:}b", "[a [] b]", "CLOSING 0:2");
        due("  a: \\\nb", "[a [] b]", "");
        due("  a: \\\n  b", "[a [] b]", "");
        due("  a: \\\n   b\n   c", "[a [b, c]]", "");
        due("a:\n  b:\n  c", "[a [b [], c]]", "");
        due("a:\n  b:\nc", "[a [b []], c]", "");
        due("a:\n  b:\n c", "[a [b []], c]", "COLUMN 2:1");
        due("  a:\n\n b", "[a [], b]", "COLUMN 2:1");
        due("a b: c", "[a b [c]]", "");
        due("1: 2", "[1 [2]]", "");
        due("(a): b", "[(a) [b]]", "");
        due("a: b;: c", "[a [b, c]]", "ALONE 0:5");
    }

    private static void braces() {
        due("{", "[]", "ALONE 0:0");
        due("a {b} c", "[a b c]", "ALONE 0:2, CLOSING 0:4");
        due("a: {b} c", "[a {b} c]", "");
        due("a: {b} c: {d}", "[a {b} c {d}]", "");
        due("a:{}", "[a {}]", "");
        due("a:{{b}", "[a {b}]", "ALONE 0:3");
        due("a:{:b}", "[a {b}]", "ALONE 0:3");
        due("a:{};b", "[a {}, b]", "");
        due("a:{b;c}", "[a {b, c}]", "");
        due("a:{\nb\n c\n}", "[a {b c}]", "");
        due("a:\n{b}\nc", "[a {b}, c]", "");
        due("  a:\n{b}", "[a {b}]", "");
        due("a: { b: c\nd }", "[a {b [c] d}]", "");
        due("a: { b: c\n     d }", "[a {b [c] d}]", "");
        due("a: { b: c\n        d }", "[a {b [c, d]}]", "");
        due("a: { b:\nc\nd }", "[a {b [c, d]}]", "");
        due("a: { b:\n c\nd } e", "[a {b [c] d} e]", "");
        due("a: { b: c: d } e", "[a {b [c [d]]} e]", "");
        due("a: { b: { c: d } e }", "[a {b {c [d]} e}]", "");
        due("a: { b: } c", "[a {b []} c]", "");
        due("a: b } c", "[a [b c]]", "CLOSING 0:5");
        due("a: b: {c} d\n   e", "[a [b {c} d, e]]", "");
        due("a: {\n  b\n}\nc", "[a {b}, c]", "");
        due("a:\n  b: {\nc }\n  d", "[a [b {c}, d]]", "");
        due("a: b: { c\nd: e } f\ng", "[a [b {c d [e]} f], g]", "");
    }

    private static void groups() {
        due("()", "[()]", "");
        due("a (b 1 (c)) d", "[a (b 1 (c)) d]", "");
        due("(a\nb\n)c\nd", "[(a b) c, d]", "");
        due("(a ; b : { } c)", "[(a b c)]", "STRAY 0:3, STRAY 0:7, STRAY 0:9, STRAY 0:11");
        due("(@)", "[()]", "STRAY 0:1");
        due("(:) b", "[() b]", "STRAY 0:1");
        due("a)", "[a]", "CLOSING 0:1");
        due("a:(\nb)\nc", "[a [(b)], c]", "");
        due("a\n(b)", "[a, (b)]", "");
        due("a\n (b)", "[a (b)]", "");
        due("a:{(})}", "[a {()}]", "STRAY 0:4");
    }

    private static void endOfText() {
        due("a:", "[a []]", "");
        due("a:\n  ", "[a []]", "");
        due("a::", "[a [] []]", "");
        due("a:{", "[a {}]", "OPEN 0:3");
        due("a:{ b: {\n c", "[a {b {c}}]", "OPEN 1:2, OPEN 1:2");
        due("a:{ b: ( (", "[a {b [(())]}]", "OPEN 0:10, OPEN 0:10, OPEN 0:10");
        due("a:{ b:", "[a {b []}]", "OPEN 0:6");
        due("(a", "[(a)]", "OPEN 0:2");
        due("(a\n", "[(a)]", "OPEN 1:0");
        due("(a # x", "[(a)]", "OPEN 0:6");
        due("(a \\\n ", "[(a)]", "OPEN 1:1");
        due("(a @", "[(a)]", "STRAY 0:3, OPEN 0:4");
        due("(:", "[()]", "STRAY 0:1, OPEN 0:2");
        OffsideParser x = due("a: # b\n c: # d\n\n  ", "[a [c []]]", "");
        Check.same("places with an empty block at the end", "0:0 0:0 0:0 1:1 1:1 1:1 3:2", Check.places(x));
    }

    private static void depthOfBlocks() {
        String thirty = "a:".repeat(30);
        String open = "[a ".repeat(30);
        String shut = "]".repeat(30);
        due(thirty + "b", open + "[b]" + shut, "");
        due(thirty + "b:c", open + "[b c]" + shut, "DEEP 0:61");
        due(thirty + "b:{c}", open + "[b c]" + shut, "DEEP 0:61, ALONE 0:62, CLOSING 0:64");
        due(thirty + "b;:c", open + "[b, c]" + shut, "ALONE 0:62");
        due(thirty + "b(c)", open + "[b c]" + shut, "DEEP 0:61, CLOSING 0:63");
        due(thirty + "(c)", open + "[c]" + shut, "DEEP 0:60, CLOSING 0:62");
        due(thirty + ";b", open + "[], b" + shut, "");
        due(thirty, open + "[]" + shut, "");
        due("a:".repeat(29) + "b::c", "[a ".repeat(29) + "[b [] [c]]" + "]".repeat(29), "");
        due("a:{".repeat(30) + "b:c", "[" + "a {".repeat(30) + "b c" + "}".repeat(30) + "]",
                "DEEP 0:91" + ", OPEN 0:93".repeat(30));
        due(thirty + "b\nc:d", open + "[b]" + shut.substring(1) + ", c [d]]", "");
    }

    private static void depthOfGroups() {
        String groups = "(".repeat(30);
        due(groups + ")".repeat(30) + "a", "[" + groups + ")".repeat(30) + " a]", "");
        due(groups + "(a)" + ")".repeat(29), "[" + groups + "a" + ")".repeat(30) + "]", "DEEP 0:30");
        due(groups + ")(" + ")".repeat(30),
                "[" + groups.substring(1) + "() ()" + ")".repeat(29) + "]", "");
        due("a:".repeat(29) + "((b)", "[a ".repeat(29) + "[(b)]" + "]".repeat(29), "DEEP 0:59");
        due("a:".repeat(28) + "b(c)", "[a ".repeat(28) + "[b (c)]" + "]".repeat(28), "");
    }

    private static void places() {
        OffsideParser x = Check.parsed("\n  a: {b (1\n c)}; d:\n    e;:");
        Check.same("tree for places", "[a {b (1 c)}, d [e]]", Check.tree(x));
        Check.same("places", "0:0 1:2 1:2 1:5 1:6 1:6 1:8 1:9 2:1 2:6 2:6 3:4 3:4 3:4", Check.places(x));
        Check.same("repairs for places", "ALONE 3:6", Check.repairs(x));
        OffsideParser empty = Check.parsed("a:\nb:;c");
        Check.same("places of empty blocks", "0:0 0:0 0:0 1:0 1:0 1:0 1:2 1:3 1:3", Check.places(empty));
        OffsideParser joined = Check.parsed("a:\\\n  b\\\n c");
        Check.same("places in joined lines", "0:0 0:0 0:0 1:2 1:2 1:2 2:1", Check.places(joined));
        OffsideParser deep = Check.parsed("a:".repeat(30) + "(c");
        Check.same("nodes with a block begun by a bracket that is too deep", 93, deep.nodeCount());
        Check.same("column of that block", 60, deep.column(90));
        Check.same("column of the item in it", 61, deep.column(91));
    }

    private static void repairEdges() {
        OffsideParser x = Check.parsed("a) }");
        Check.same("repairCount()", 2, x.repairCount());
        Check.same("repair(1, 0)", 4, x.repair(1, 0));
        Check.same("repair(1, 2)", 3, x.repair(1, 2));
        Check.refuses("repair(2, 0)", IndexOutOfBoundsException.class, () -> x.repair(2, 0));
        Check.refuses("repair(-1, 0)", IndexOutOfBoundsException.class, () -> x.repair(-1, 0));
        Check.refuses("repair(-1, 3)", IndexOutOfBoundsException.class, () -> x.repair(-1, 3));
        Check.refuses("repair(0, 3)", IndexOutOfBoundsException.class, () -> x.repair(0, 3));
        Check.refuses("repair(0, -1)", IndexOutOfBoundsException.class, () -> x.repair(0, -1));
        Check.refuses("repair(1, -1)", IndexOutOfBoundsException.class, () -> x.repair(1, -1));
        Check.refuses("repair(MAX, 0)", IndexOutOfBoundsException.class, () -> x.repair(Integer.MAX_VALUE, 0));
        Check.refuses("repair(MIN, MIN)", IndexOutOfBoundsException.class,
                () -> x.repair(Integer.MIN_VALUE, Integer.MIN_VALUE));
    }

    private static void parseAgain() {
        OffsideParser x = Check.parsed("a: b ) @");
        Check.same("parse() again", 6, x.parse());
        Check.same("repairs do not pile up", 2, x.repairCount());
        x.remove(1);
        Check.same("repairs stay when the tree is changed", 2, x.repairCount());
        Check.same("parse() after remove", 6, x.parse());
        Check.same("tree after that", "[a [b]]", Check.tree(x));
        OffsideParser other = Check.parsed("a:\n  b: {\n (c: @ \\\n");
        other.trim(0);
        Check.feedText(other, "  x:\n   y\nz )");
        Check.same("parse() of another text", 8, other.parse());
        Check.same("its tree", "[x [y], z]", Check.tree(other));
        Check.same("its repairs", "COLUMN 2:0, CLOSING 2:2", Check.repairs(other));
        other.trim(0);
        Check.feedText(other, "# x");
        other.parse();
        other.trim(0);
        Check.feedText(other, "p @:");
        Check.same("parse() after a comment", 4, other.parse());
        Check.same("its repairs", "STRAY 0:2", Check.repairs(other));
        other.trim(2);
        Check.feedText(other, "\\\n");
        other.parse();
        other.trim(0);
        Check.feedText(other, "  a\nb");
        other.parse();
        Check.same("tree after a joined end", "[a, b]", Check.tree(other));
        OffsideParser open = Check.parsed("a:{b:{(c");
        open.trim(0);
        Check.feedText(open, "\\\na: b\n   c; : d");
        open.parse();
        Check.same("tree after blocks that stayed open", "[a [b, c, d]]", Check.tree(open));
        Check.same("repairs after blocks that stayed open", "ALONE 2:6", Check.repairs(open));
    }

    private static void longestTexts() {
        OffsideParser stray = Check.fed("@".repeat(600));
        Check.same("parse() of 600 stray bytes", 1, stray.parse());
        Check.same("their repairs", 600, stray.repairCount());
        Check.same("the last one's column", 599, stray.repair(599, 2));
        OffsideParser colons = Check.fed("a" + ":".repeat(599));
        Check.same("parse() of 599 colons", 602, colons.parse());
        Check.same("its blocks", 600, colons.childCount(1));
        OffsideParser most = Check.fed(("a:".repeat(30) + "a\n").repeat(9) + "a:".repeat(20) + "ab");
        Check.same("parse() of the most nodes", 1 + 9 * 92 + 62, most.parse());
        OffsideParser brackets = Check.fed("(".repeat(600));
        Check.same("parse() of 600 brackets", 32, brackets.parse());
        Check.same("their repairs", 600, brackets.repairCount());
        Check.same("the last one's kind", 6, brackets.repair(599, 0));
        Check.same("the last one's column", 600, brackets.repair(599, 2));
        OffsideParser lines = Check.fed(" a" + "\n}".repeat(299));
        Check.same("parse() of 299 wrong lines", 3, lines.parse());
        Check.same("their two repairs each", 598, lines.repairCount());
        Check.same("the last one's line", 299, lines.repair(597, 1));
    }
}
