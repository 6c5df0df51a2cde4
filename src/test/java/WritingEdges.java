import java.math.BigInteger;
import java.util.ArrayList;
import java.util.List;

/** The edges of 'Writing' in the description, and of promises 23 to 25. */
final class WritingEdges {
    private static final Class<IndexOutOfBoundsException> OUTSIDE = IndexOutOfBoundsException.class;
    private static final String TEXT = "Description";

    private WritingEdges() {
    }

    static void run() {
        parts();
        groups();
        braces();
        linesWithBraces();
        linesWithColumns();
        lineEndsWithColumns();
        writes();
        lengthsOfWhatIsWritten();
        writtenEdges();
        digests();
        digestWraps();
    }

    private static void due(String text, String withBraces, String withColumns) {
        Check.same("write(false) of \"" + text + "\"", withBraces, Check.written(Check.parsed(text), false));
        Check.same("write(true) of \"" + text + "\"", withColumns, Check.written(Check.parsed(text), true));
    }

    private static void same(String text, String written) {
        due(text, written, written);
    }

    private static void parts() {
        Check.sentence(TEXT, "An item is written as its parts with one space between them, except that a block has no "
                + "space before it.");
        same("a", "a\n");
        same("  a   b  ", "a b\n");
        same("a1 1a(b)c", "a1 1 a (b) c\n");
        same("a:{}b:{}1", "a: { } b: { } 1\n");
        same("a:{}:{}(1)", "a: { }: { } (1)\n");
        same("(1):{}2", "(1): { } 2\n");
        Check.sentence(TEXT, "A word and a number are written as such (the value in decimal).");
        same("0", "0\n");
        same("00 09 10 007", "0 9 10 7\n");
        same("1 10 100 1000 10000 100000 1000000 10000000 100000000",
                "1 10 100 1000 10000 100000 1000000 10000000 100000000\n");
        same("9 99 999 9999 99999 999999 9999999 99999999 999999999",
                "9 99 999 9999 99999 999999 9999999 99999999 999999999\n");
        same("1000000000 1000000001 1100000000 2147483648", "0 1 100000000 147483648\n");
        same("102030405 900000009", "102030405 900000009\n");
        same("AZaz09", "AZaz09\n");
        OffsideParser longest = Check.parsed("x".repeat(600));
        Check.same("write(false) of a word of 600", 601, longest.write(false));
        Check.same("write(true) of a word of 600", 601, longest.write(true));
        OffsideParser renamed = Check.parsed("a abcdefghijkl");
        renamed.rename(2, Check.pack("Longer12"));
        renamed.rename(3, Check.pack("s"));
        Check.same("write(false) behind rename", "Longer12 s\n", Check.written(renamed, false));
    }

    private static void groups() {
        Check.sentence(TEXT, "A group is written as ( and its parts with one space between them and ).");
        same("( )", "()\n");
        same("( a )", "(a)\n");
        same("(a 1()b(c 2))", "(a 1 () b (c 2))\n");
        same("()()", "() ()\n");
        same("(a", "(a)\n");
        same("(".repeat(30) + "a", "(".repeat(30) + "a" + ")".repeat(30) + "\n");
    }

    private static void braces() {
        Check.sentence(TEXT, "A block in braces is written as : and a space and {, then, if it has items, a space and its "
                + "items with ; and a space between them, then a space and }.");
        due("a:", "a: { }\n", "a:\n");
        due("a:{}", "a: { }\n", "a:\n");
        due("a:{b}", "a: { b }\n", "a:\n  b\n");
        due("a:b;c;d", "a: { b; c; d }\n", "a:\n  b\n  c\n  d\n");
        same("a:{}b", "a: { } b\n");
        same("a:{b}c", "a: { b } c\n");
        same("a:{b;c;d}e", "a: { b; c; d } e\n");
        same("a:{b:{}}c", "a: { b: { } } c\n");
        same("a:{b:{};c:{d;e}}f", "a: { b: { }; c: { d; e } } f\n");
        same("a:{(1)2;3}b", "a: { (1) 2; 3 } b\n");
    }

    private static void linesWithBraces() {
        Check.sentence(TEXT, "With braces: all items of the root are written with a line end behind each one, and all "
                + "blocks in braces.");
        same("", "");
        same("a;b;c", "a\nb\nc\n");
        due("a:\n  b:\n    c\n  d\ne:", "a: { b: { c }; d }\ne: { }\n", "a:\n  b:\n    c\n  d\ne:\n");
        OffsideParser emptied = Check.parsed("a;b");
        emptied.remove(1);
        emptied.remove(1);
        Check.same("write(false) behind the last remove", 0, emptied.write(false));
        Check.same("write(true) behind the last remove", 0, emptied.write(true));
        Check.same("write(false) of 300 items", 600, Check.parsed("1;".repeat(300)).write(false));
        Check.same("write(false) of 30 blocks", 30 * 7 + 2, Check.parsed("a:".repeat(30) + "b").write(false));
    }

    private static void linesWithColumns() {
        Check.sentence(TEXT, "With columns: an item that is not in a block in braces and has a block as its last part is "
                + "written up to this block, then a :, a line end, and the items of the block, each one two columns "
                + "further right than the item; other blocks are written in braces.");
        due("a:", "a: { }\n", "a:\n");
        due("a:b", "a: { b }\n", "a:\n  b\n");
        due("a b:c", "a b: { c }\n", "a b:\n  c\n");
        due("(a):1", "(a): { 1 }\n", "(a):\n  1\n");
        due("a::b", "a: { }: { b }\n", "a: { }:\n  b\n");
        due("a:{b:c}:{d:e}", "a: { b: { c } }: { d: { e } }\n", "a: { b: { c } }:\n  d:\n    e\n");
        due("a:{b:c}d;e:f", "a: { b: { c } } d\ne: { f }\n", "a: { b: { c } } d\ne:\n  f\n");
        due("a:{b:{c:d}e;f:g}", "a: { b: { c: { d } } e; f: { g } }\n", "a:\n  b: { c: { d } } e\n  f:\n    g\n");
        due("a:{b:{c:{d}}}e", "a: { b: { c: { d } } } e\n", "a: { b: { c: { d } } } e\n");
        due("a:b:c:d", "a: { b: { c: { d } } }\n", "a:\n  b:\n    c:\n      d\n");
        StringBuilder deep = new StringBuilder();
        for (int i = 0; i < 30; i++) {
            deep.append("  ".repeat(i)).append("a:\n");
        }
        OffsideParser x = Check.parsed("a:".repeat(30) + "b");
        Check.same("write(true) of 30 blocks", deep.length() + 62, x.write(true));
        Check.same("its last space", 32, x.written(deep.length() + 59));
        Check.same("its last letter", (int) 'b', x.written(deep.length() + 60));
        Check.same("its end", 10, x.written(deep.length() + 61));
        Check.same("the line before", 10, x.written(deep.length() - 1));
        Check.same("write(true) of 29 blocks with an empty one", deep.length(), Check.parsed("a:".repeat(30)).write(true));
    }

    private static void lineEndsWithColumns() {
        Check.sentence(TEXT, "Behind an item there is a line end, if it is not in a block in braces and has no block as "
                + "its last part.");
        due("a", "a\n", "a\n");
        due("a;b:;c", "a\nb: { }\nc\n", "a\nb:\nc\n");
        due("a:{b};c", "a: { b }\nc\n", "a:\n  b\nc\n");
        due("a:{b;c:}d;e", "a: { b; c: { } } d\ne\n", "a: { b; c: { } } d\ne\n");
        due("a:{b:c};d", "a: { b: { c } }\nd\n", "a:\n  b:\n    c\nd\n");
        due("a:{b:{}1};c", "a: { b: { } 1 }\nc\n", "a:\n  b: { } 1\nc\n");
    }

    private static void writes() {
        Check.sentence("Promise 23", "Writes the tree.");
        OffsideParser x = Check.parsed("a:{b};c");
        x.trim(0);
        Check.same("write of the tree, not of the text", "a:\n  b\nc\n", Check.written(x, true));
        x.move(6, 3, 0);
        Check.same("write behind move", "a: { c; b }\n", Check.written(x, false));
        x.remove(6);
        Check.same("write behind remove", "a:\n  c\n", Check.written(x, true));
        x.rename(5, Check.pack("d2"));
        Check.same("write behind rename", "a: { d2 }\n", Check.written(x, false));
        long sum = x.digest();
        x.write(true);
        Check.same("digest() behind write", sum, x.digest());
        x.parse();
        Check.same("write of an empty tree", "", Check.written(x, true));
        Check.sentence("Promise 23", "Returns the length of what is written.");
        Check.same("write(true) of a new object", 0, new OffsideParser().write(true));
        Check.same("write(false) of a new object", 0, new OffsideParser().write(false));
        Check.same("write(true) before parse", 0, Check.fed("a").write(true));
        Check.same("write(false) of one letter", 2, Check.parsed("a").write(false));
        OffsideParser twice = Check.parsed("a b");
        Check.same("write(false)", 4, twice.write(false));
        Check.same("write(false) again", 4, twice.write(false));
        Check.same("write(true) behind that", 4, twice.write(true));
    }

    private static void lengthsOfWhatIsWritten() {
        Check.sentence("Promise 23", "Returns the length of what is written.");
        OffsideParser x = Check.parsed("a:".repeat(30) + "b" + ";b".repeat(269));
        int lines = lines(30);
        Check.same("write(true) of 270 items in 30 blocks", lines + 270 * 62, x.write(true));
        Check.same("its last byte", 10, x.written(lines + 270 * 62 - 1));
        Check.refuses("the byte behind it", OUTSIDE, () -> x.written(lines + 270 * 62));
        Check.same("write(false) of them", 30 * 7 + 1 + 269 * 3 + 1, x.write(false));
        Check.same("write(false) of 599 colons", 1 + 599 * 5 + 1, Check.parsed("a" + ":".repeat(599)).write(false));
        Check.same("write(true) of 599 colons", 1 + 598 * 5 + 2, Check.parsed("a" + ":".repeat(599)).write(true));
        OffsideParser longer = Check.parsed("a;".repeat(300));
        for (int i = 0; i < 300; i++) {
            longer.rename(2 + 2 * i, Check.pack("abcdefgh"));
        }
        Check.same("write(true) of 300 longer words", 2700, longer.write(true));
    }

    /** How much is written for the lines that open so many blocks, one in another. */
    private static int lines(int depth) {
        int sum = 0;
        for (int i = 0; i < depth; i++) {
            sum += 2 * i + 3;
        }
        return sum;
    }

    private static void writtenEdges() {
        Check.sentence("Promise 24", "Returns the byte with this index.");
        OffsideParser x = Check.parsed("a:{b}1");
        String due = "a: { b } 1\n";
        Check.same("write(false)", due.length(), x.write(false));
        for (int i = 0; i < due.length(); i++) {
            Check.same("written(" + i + ")", (int) due.charAt(i), x.written(i));
        }
        x.parse();
        x.remove(1);
        Check.same("written(0) behind parse and remove", (int) 'a', x.written(0));
        Check.same("written(10) behind parse and remove", 10, x.written(10));
        Check.sentence("Promise 24", "Throws `IndexOutOfBoundsException` if there is no such index");
        int[] far = {-1, 11, 12, Integer.MIN_VALUE, Integer.MAX_VALUE, 1 << 30, 63, 64};
        for (int index : far) {
            Check.refuses("written(" + index + ") of 11", OUTSIDE, () -> x.written(index));
        }
        Check.refuses("written(0) of a new object", OUTSIDE, () -> new OffsideParser().written(0));
        Check.refuses("written(0) before write", OUTSIDE, () -> Check.parsed("a").written(0));
        OffsideParser shorter = Check.parsed("abc;d");
        Check.same("write(true)", 6, shorter.write(true));
        shorter.remove(1);
        Check.same("written(5) behind remove", 10, shorter.written(5));
        Check.same("write(true) behind remove", 2, shorter.write(true));
        Check.same("written(1)", 10, shorter.written(1));
        Check.refuses("written(2) of 2, where 6 were", OUTSIDE, () -> shorter.written(2));
        shorter.remove(1);
        Check.same("written(1) before the next write", 10, shorter.written(1));
        Check.same("write(false) of nothing", 0, shorter.write(false));
        Check.refuses("written(0) of nothing, where 2 were", OUTSIDE, () -> shorter.written(0));
    }

    private static final String DIGEST = "A number d starts with 73; for each of the following numbers x, d becomes d * 31 "
            + "+ x, which wraps around as a 64-bit integer: the length of the text; the number of nodes; for each node its "
            + "kind, the number of its children, its value, and, for a word, its bytes; the number of repairs; the number "
            + "of different words.";

    private static long sum(long... numbers) {
        BigInteger d = BigInteger.valueOf(73);
        for (long number : numbers) {
            d = d.multiply(BigInteger.valueOf(31)).add(BigInteger.valueOf(number));
        }
        return d.longValue();
    }

    private static void digests() {
        Check.sentence("Promise 25", "Computes a checksum.");
        OffsideParser x = Check.parsed("a @");
        Check.same("digest() again", x.digest(), x.digest());
        Check.sentence("Promise 25", DIGEST);
        Check.same("of a new object", sum(0, 1, 0, 0, 0, 0, 0), new OffsideParser().digest());
        Check.same("of a text that is not parsed", sum(1, 1, 0, 0, 0, 0, 0), Check.fed("a").digest());
        Check.same("of a word", sum(1, 3, 0, 1, 0, 1, 1, 0, 2, 0, 1, 97, 0, 1), Check.parsed("a").digest());
        Check.same("of a word and a stray byte", sum(3, 3, 0, 1, 0, 1, 1, 0, 2, 0, 1, 97, 1, 1), x.digest());
        Check.same("of a number", sum(3, 3, 0, 1, 0, 1, 1, 0, 3, 0, 123, 0, 0), Check.parsed("123").digest());
        Check.same("of a great number", sum(10, 3, 0, 1, 0, 1, 1, 0, 3, 0, 999999999, 0, 0),
                Check.parsed("9999999999").digest());
        Check.same("of a group", sum(2, 3, 0, 1, 0, 1, 1, 0, 4, 0, 0, 0, 0), Check.parsed("()").digest());
        Check.same("of an empty block", sum(2, 4, 0, 1, 0, 1, 2, 0, 2, 0, 1, 97, 0, 0, 0, 0, 1),
                Check.parsed("a:").digest());
        Check.same("of a braced block", sum(4, 4, 0, 1, 0, 1, 2, 0, 2, 0, 1, 97, 0, 0, 1, 0, 1),
                Check.parsed("a:{}").digest());
        Check.same("of the same word twice", sum(5, 4, 0, 1, 0, 1, 2, 0, 2, 0, 2, 97, 49, 2, 0, 2, 97, 49, 0, 1),
                Check.parsed("a1 a1").digest());
        Check.same("of two words", sum(3, 4, 0, 1, 0, 1, 2, 0, 2, 0, 1, 97, 2, 0, 1, 65, 0, 2), Check.parsed("a A").digest());
        x.trim(0);
        Check.same("behind trim", sum(0, 3, 0, 1, 0, 1, 1, 0, 2, 0, 1, 97, 1, 1), x.digest());
        x.rename(2, Check.pack("Zz"));
        Check.same("behind rename", sum(0, 3, 0, 1, 0, 1, 1, 0, 2, 0, 2, 90, 122, 1, 1), x.digest());
        x.remove(1);
        Check.same("behind remove", sum(0, 1, 0, 0, 0, 1, 0), x.digest());
        x.parse();
        Check.same("behind parse", sum(0, 1, 0, 0, 0, 0, 0), x.digest());
        Check.sentence("Promise 25", "Returns d.");
        Check.same("of a new object, written out", 2008449459254L, new OffsideParser().digest());
    }

    /** Trees whose sum is far beyond 64 bits, against sums that do not wrap around on the way. */
    private static void digestWraps() {
        Check.sentence("Promise 25", DIGEST);
        for (int words : new int[] {2, 3, 4, 5, 10, 100, 300}) {
            List<Long> numbers = new ArrayList<>(List.of(2L * words, 2L + words, 0L, 1L, 0L, 1L, (long) words, 0L));
            for (int i = 0; i < words; i++) {
                numbers.addAll(List.of(2L, 0L, 1L, 122L));
            }
            numbers.addAll(List.of(0L, 1L));
            long due = sum(numbers.stream().mapToLong(Long::longValue).toArray());
            Check.same("digest() of " + words + " words", due, Check.parsed("z ".repeat(words)).digest());
        }
    }
}
