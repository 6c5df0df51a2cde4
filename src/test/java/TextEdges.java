import java.math.BigInteger;

/** The edges of texts: 'What it is', 'Text' and 'Tokens' in the description, promises 1 to 4. */
final class TextEdges {
    private static final Class<IllegalArgumentException> WRONG = IllegalArgumentException.class;
    private static final Class<IllegalStateException> FULL = IllegalStateException.class;
    private static final Class<IndexOutOfBoundsException> OUTSIDE = IndexOutOfBoundsException.class;
    private static final String ABOUT = "What it is";
    private static final String TEXT = "Description";

    private TextEdges() {
    }

    static void run() {
        everyText();
        lastCall();
        newObject();
        feedBytes();
        feedRefusesBytes();
        feedRefusesTooLong();
        trimEdges();
        lengthEdges();
        bytesOfATextEdges();
        linesAndColumns();
        words();
        numbers();
        signs();
        spacesAndLineEnds();
        comments();
        joinedLines();
        strayBytes();
        firstTokens();
        firstTokensOfJoinedLines();
        placesOfTokens();
    }

    /** Every text of up to four of these signs, against the model. */
    private static void everyText() {
        Check.sentence(ABOUT, "A parser for texts whose blocks are told by columns, or by braces.");
        Check.parses("a:\n  b\n  c\nd", "[a [b, c], d]", "");
        Check.parses("a:{b;c}d", "[a {b, c} d]", "");
        Check.sentence(ABOUT, "It makes a tree of every text, and repairs what does not fit");
        String signs = "a1{}():;#\\@ \n";
        int texts = 1;
        for (int length = 0; length <= 4; length++) {
            for (int number = 0; number < texts; number++) {
                StringBuilder text = new StringBuilder();
                for (int i = 0, rest = number; i < length; i++, rest /= signs.length()) {
                    text.append(signs.charAt(rest % signs.length()));
                }
                likeTheModel(text.toString());
            }
            texts *= signs.length();
        }
    }

    private static void likeTheModel(String text) {
        Model model = new Model();
        for (int i = 0; i < text.length(); i++) {
            model.feed(text.charAt(i));
        }
        OffsideParser x = Check.fed(text);
        Check.same("parse() of \"" + text + "\"", model.parse(), x.parse());
        Check.same("digest() of \"" + text + "\"", model.digest(), x.digest());
        StringBuilder due = new StringBuilder();
        StringBuilder got = new StringBuilder();
        for (int i = 0; i < x.repairCount() * 3; i++) {
            due.append(' ').append(model.repair(i / 3, i % 3));
            got.append(' ').append(x.repair(i / 3, i % 3));
        }
        for (int node = 0; node < x.nodeCount(); node++) {
            due.append(' ').append(model.node(node).line).append(':').append(model.node(node).column);
            got.append(' ').append(x.line(node)).append(':').append(x.column(node));
        }
        Check.same("places in \"" + text + "\"", due.toString(), got.toString());
    }

    private static void lastCall() {
        Check.sentence(ABOUT, "An object is used for at most 512 calls after it has been made");
        OffsideParser x = new OffsideParser();
        for (int call = 1; call <= 75; call++) {
            x.feed(Check.pack("a:b;c @\n"));
        }
        int nodes = x.parse();
        long sum = x.digest();
        int size = x.write(true);
        for (int call = 79; call <= 512; call++) {
            String name = "call " + call + " of a full text";
            if (call % 5 == 0) {
                Check.refuses(name + ", written", OUTSIDE, () -> x.written(size));
            } else if (call % 5 == 1) {
                Check.same(name + ", parse()", nodes, x.parse());
            } else if (call % 5 == 2) {
                Check.same(name + ", digest()", sum, x.digest());
            } else if (call % 5 == 3) {
                Check.same(name + ", write(true)", size, x.write(true));
            } else {
                Check.same(name + ", written", 10, x.written(size - 1));
            }
        }
        OffsideParser small = new OffsideParser();
        for (int call = 1; call <= 511; call++) {
            Check.same("feed or trim as call " + call, 1 - call % 2, call % 2 == 1 ? small.feed('a') - 1 : small.trim(0));
        }
        Check.same("length() as call 512", 1, small.length());
    }

    private static void newObject() {
        Check.sentence("Promise 1", "Creates a parser with an empty text");
        Check.same("length()", 0, new OffsideParser().length());
        Check.same("trim(0)", 0, new OffsideParser().trim(0));
        Check.refuses("trim(1)", WRONG, () -> new OffsideParser().trim(1));
        Check.same("parse()", 1, new OffsideParser().parse());
        Check.sentence("Promise 1", "the tree consists of a root without items");
        Check.same("nodeCount()", 1, new OffsideParser().nodeCount());
        Check.same("kind(0)", 0, new OffsideParser().kind(0));
        Check.same("value(0)", 0, new OffsideParser().value(0));
        Check.same("childCount(0)", 0, new OffsideParser().childCount(0));
        Check.refuses("kind(1)", OUTSIDE, () -> new OffsideParser().kind(1));
        Check.refuses("child(0, 0)", OUTSIDE, () -> new OffsideParser().child(0, 0));
        Check.sentence("Promise 1", "there are no repairs");
        Check.same("repairCount()", 0, new OffsideParser().repairCount());
        Check.refuses("repair(0, 0)", OUTSIDE, () -> new OffsideParser().repair(0, 0));
        Check.sentence("Promise 1", "nothing is written");
        Check.refuses("written(0)", OUTSIDE, () -> new OffsideParser().written(0));
        Check.same("write(true)", 0, new OffsideParser().write(true));
        Check.same("write(false)", 0, new OffsideParser().write(false));
    }

    private static void feedBytes() {
        Check.sentence("Promise 2", "Appends up to 8 bytes to the text: those of a number, the highest one first, "
                + "without those that are 0.");
        OffsideParser none = Check.fed("ab");
        Check.same("feed(0)", 2, none.feed(0L));
        none.parse();
        Check.same("tree behind feed(0)", "[ab]", Check.tree(none));
        for (int place = 0; place < 8; place++) {
            OffsideParser x = Check.fed("a");
            Check.same("feed of one byte in place " + place, 2, x.feed((long) 'b' << 8 * place));
            x.parse();
            Check.same("tree behind that", "[ab]", Check.tree(x));
        }
        OffsideParser eight = new OffsideParser();
        Check.same("feed of eight", 8, eight.feed(0x6132333435363738L));
        Check.same("feed of eight more", 16, eight.feed(0x7A7E0A207D217A30L));
        eight.parse();
        Check.same("tree behind that", "[a2345678z z0]", Check.tree(eight));
        Check.same("repairs behind that", "STRAY 0:9, CLOSING 1:1, STRAY 1:2", Check.repairs(eight));
        OffsideParser gaps = new OffsideParser();
        Check.same("feed with 0 between", 4, gaps.feed(0x0061006200630064L));
        Check.same("feed with 0 behind", 6, gaps.feed(0x6566000000000000L));
        gaps.parse();
        Check.same("tree behind that", "[abcdef]", Check.tree(gaps));
        Check.sentence("Promise 2", "Returns the length of the text.");
        OffsideParser sums = new OffsideParser();
        for (int i = 1; i <= 8; i++) {
            Check.same("feed of " + i, i * (i + 1) / 2, sums.feed(Check.pack("a".repeat(i))));
        }
    }

    private static void feedRefusesBytes() {
        Check.sentence("Promise 2", "Throws `IllegalArgumentException` if one of the bytes is not 0, 10 or 32 to 126");
        for (int b = 0; b < 256; b++) {
            for (int place = 0; place < 8; place++) {
                long bytes = 0x6161616161616161L & ~(255L << 8 * place) | (long) b << 8 * place;
                OffsideParser x = Check.fed("a");
                if (b == 0 || b == 10 || (b >= 32 && b <= 126)) {
                    Check.same("feed with byte " + b + " in place " + place, b == 0 ? 8 : 9, x.feed(bytes));
                } else {
                    Check.refuses("feed with byte " + b + " in place " + place, WRONG, () -> x.feed(bytes));
                    Check.same("length() behind that", 1, x.length());
                }
            }
        }
        Check.refuses("feed(MIN)", WRONG, () -> new OffsideParser().feed(Long.MIN_VALUE));
        Check.refuses("feed(MAX)", WRONG, () -> new OffsideParser().feed(Long.MAX_VALUE));
        Check.refuses("feed(-1)", WRONG, () -> new OffsideParser().feed(-1L));
    }

    private static void feedRefusesTooLong() {
        Check.sentence("Promise 2", "Throws `IllegalStateException` if the text would be longer than 600");
        for (int size = 1; size <= 8; size++) {
            long bytes = Check.pack("b".repeat(size));
            Check.same("feed of " + size + " up to 600", 600, Check.fed("a".repeat(600 - size)).feed(bytes));
            OffsideParser x = Check.fed("a".repeat(601 - size));
            Check.refuses("feed of " + size + " up to 601", FULL, () -> x.feed(bytes));
            Check.same("length() behind that", 601 - size, x.length());
            x.parse();
            Check.same("the word behind that", 601 - size, x.value(2));
        }
        Check.same("feed of one with 0 around it up to 600", 600, Check.fed("a".repeat(599)).feed(0x6200000000L));
        OffsideParser full = Check.fed("a".repeat(600));
        Check.same("feed(0) of a full text", 600, full.feed(0L));
        Check.refuses("feed of one to a full text", FULL, () -> full.feed('b'));
        full.trim(599);
        Check.same("feed of one behind trim(599)", 600, full.feed('b'));
        Check.refuses("feed of a wrong byte to a full text", WRONG, () -> full.feed(127L));
        Check.refuses("feed of a wrong byte behind seven right ones", WRONG, () -> full.feed(0x616161616161617FL));
    }

    private static void trimEdges() {
        Check.sentence("Promise 3", "Shortens the text.");
        OffsideParser x = Check.fed("ab1\\\nc(");
        x.trim(6);
        x.parse();
        Check.same("tree behind trim(6)", "[ab1 c]", Check.tree(x));
        Check.same("repairs behind trim(6)", "", Check.repairs(x));
        x.trim(4);
        x.parse();
        Check.same("repairs behind trim(4), which cuts a line end off", "STRAY 0:3", Check.repairs(x));
        x.trim(2);
        x.parse();
        Check.same("tree behind trim(2), which cuts a word", "[ab]", Check.tree(x));
        x.feed('z');
        x.parse();
        Check.same("tree behind feed", "[abz]", Check.tree(x));
        x.trim(0);
        Check.same("parse() behind trim(0)", 1, x.parse());
        Check.sentence("Promise 3", "Returns the length before.");
        OffsideParser y = Check.fed("abcdef");
        Check.same("trim(6) of 6", 6, y.trim(6));
        Check.same("trim(5) of 6", 6, y.trim(5));
        Check.same("trim(0) of 5", 5, y.trim(0));
        Check.same("trim(0) of 0", 0, y.trim(0));
        Check.same("trim(600) of 600", 600, Check.fed("a".repeat(600)).trim(600));
        Check.same("trim(0) of 600", 600, Check.fed("a".repeat(600)).trim(0));
        Check.sentence("Promise 3",
                "Throws `IllegalArgumentException` if length is negative, or greater than the length");
        for (int size : new int[] {0, 1, 8, 599, 600}) {
            OffsideParser z = Check.fed("a".repeat(size));
            for (int length : new int[] {-1, -size - 1, size + 1, Integer.MIN_VALUE, Integer.MAX_VALUE}) {
                Check.refuses("trim(" + length + ") of " + size, WRONG, () -> z.trim(length));
                Check.same("length() behind that", size, z.length());
            }
            Check.same("trim(" + size + ") of " + size, size, z.trim(size));
        }
        OffsideParser cut = Check.fed("abcd");
        cut.trim(2);
        Check.refuses("trim(3) behind trim(2)", WRONG, () -> cut.trim(3));
    }

    private static void lengthEdges() {
        Check.sentence("Promise 4", "Returns the length of the text.");
        for (int size : new int[] {0, 1, 7, 8, 9, 64, 65, 599, 600}) {
            Check.same("length() of " + size, size, Check.fed(" ".repeat(size)).length());
        }
        OffsideParser x = Check.fed("a;b;c @\n#");
        x.parse();
        x.remove(1);
        x.write(false);
        Check.same("length() behind parse, remove and write", 9, x.length());
    }

    private static void bytesOfATextEdges() {
        Check.sentence(TEXT, "The text consists of bytes: letters and digits, other visible characters (33 to 126), "
                + "spaces (32) and line ends (10); at most 600.");
        Check.same("feed of 10, 32, 33, 126", 4, new OffsideParser().feed(0x0A20217EL));
        for (int b : new int[] {9, 11, 31, 127, 128, 255}) {
            Check.refuses("feed(" + b + ")", WRONG, () -> new OffsideParser().feed(b));
        }
        OffsideParser full = Check.fed("a ".repeat(300));
        Check.same("length() of a full text", 600, full.length());
        Check.same("parse() of a full text", 302, full.parse());
        Check.refuses("feed of one more", FULL, () -> full.feed(' '));
    }

    private static void linesAndColumns() {
        Check.sentence(TEXT, "Its lines are numbered from 0; the column of a byte is the number of bytes before it "
                + "in its line.");
        Check.same("first byte", "0:0 0:0 0:0", Check.places(Check.parsed("a")));
        Check.same("last column", "0:0 0:599 0:599", Check.places(Check.parsed(" ".repeat(599) + "a")));
        Check.same("last line", "0:0 599:0 599:0", Check.places(Check.parsed("\n".repeat(599) + "a")));
        Check.same("second line", "0:0 0:1 0:1 1:0 1:0", Check.places(Check.parsed(" a\nb")));
        Check.parses("@@\n@\n @", "[]", "STRAY 0:0, STRAY 0:1, STRAY 1:0, STRAY 2:1");
        Check.parses("\n".repeat(598) + " @", "[]", "STRAY 598:1");
    }

    private static boolean isLetter(char c) {
        return (c >= 'A' && c <= 'Z') || (c >= 'a' && c <= 'z');
    }

    private static boolean isDigit(char c) {
        return c >= '0' && c <= '9';
    }

    private static void words() {
        Check.sentence(TEXT, "a word, which is a letter (A to Z, a to z) and all letters and digits that follow");
        for (char c = 32; c <= 126; c++) {
            OffsideParser alone = Check.parsed("" + c);
            boolean word = alone.nodeCount() == 3 && alone.kind(2) == 2;
            Check.same("that " + c + " is a word", isLetter(c), word);
            OffsideParser behind = Check.parsed("x" + c);
            Check.same("that " + c + " goes on with a word", isLetter(c) || isDigit(c) ? 2 : 1, behind.value(2));
        }
        Check.parses("A Z a z A0 Z9 a0 z9 a0b9c", "[A Z a z A0 Z9 a0 z9 a0b9c]", "");
        Check.parses("1a 1a1", "[1 a 1 a1]", "");
        OffsideParser longest = Check.parsed("a" + "9Z".repeat(299) + "0");
        Check.same("nodes of a word of 600", 3, longest.nodeCount());
        Check.same("letters of a word of 600", 600, longest.value(2));
        Check.same("its last letter", (int) '0', longest.letter(2, 599));
        Check.same("the one behind that", -1, longest.letter(2, 600));
    }

    private static void numbers() {
        Check.sentence(TEXT, "a number, which is a digit and all digits that follow, with the value of these digits "
                + "modulo 1000000000");
        for (char c = 32; c <= 126; c++) {
            OffsideParser alone = Check.parsed("" + c);
            boolean number = alone.nodeCount() == 3 && alone.kind(2) == 3;
            Check.same("that " + c + " is a number", isDigit(c), number);
            Check.same("that " + c + " goes on with a number", isDigit(c) ? 10 + c - '0' : 1,
                    Check.parsed("1" + c).value(2));
        }
        String[] digits = {"0", "00", "0000000000", "9", "10", "007", "99999999", "100000000", "999999999", "1000000000",
            "1000000001", "1999999999", "2000000000", "2147483647", "2147483648", "4294967295", "4294967296", "9999999999",
            "10000000000", "9223372036854775807", "9223372036854775808", "18446744073709551615", "18446744073709551616",
            "0".repeat(599) + "7", "1" + "0".repeat(599), "9".repeat(600), "1234567890".repeat(60)};
        for (String d : digits) {
            OffsideParser x = Check.parsed(d);
            int due = new BigInteger(d).mod(BigInteger.valueOf(1000000000)).intValue();
            Check.same("nodes of " + d, 3, x.nodeCount());
            Check.same("value of " + d, due, x.value(2));
        }
    }

    private static void signs() {
        Check.sentence(TEXT, "the six signs { } ( ) : and ; (semicolon).");
        Check.parses("a{", "[a]", "ALONE 0:1");
        Check.parses("a}", "[a]", "CLOSING 0:1");
        Check.parses("a(b", "[a (b)]", "OPEN 0:3");
        Check.parses("a)", "[a]", "CLOSING 0:1");
        Check.parses("a:b", "[a [b]]", "");
        Check.parses("a;b", "[a, b]", "");
        Check.parses("a,b", "[a b]", "STRAY 0:1");
        Check.parses("[a]<b>", "[a b]", "STRAY 0:0, STRAY 0:2, STRAY 0:3, STRAY 0:5");
    }

    private static void spacesAndLineEnds() {
        Check.sentence(TEXT, "Spaces and line ends are between tokens.");
        Check.parses("", "[]", "");
        Check.parses(" ", "[]", "");
        Check.parses("\n", "[]", "");
        Check.parses(" ".repeat(600), "[]", "");
        Check.parses("\n".repeat(600), "[]", "");
        Check.parses("ab", "[ab]", "");
        Check.parses("a b", "[a b]", "");
        Check.parses("a\n b", "[a b]", "");
        Check.parses("12", "[12]", "");
        Check.parses("1 2", "[1 2]", "");
        Check.parses("1\n 2", "[1 2]", "");
        Check.parses("a 1", "[a 1]", "");
        Check.parses("a : { b ; ( c ) }", "[a {b, (c)}]", "");
    }

    private static void comments() {
        Check.sentence(TEXT, "The byte # and all bytes behind it in its line are skipped.");
        Check.parses("#", "[]", "");
        Check.parses("a#", "[a]", "");
        Check.parses("a#b", "[a]", "");
        Check.parses("#@!)}{(:;1a", "[]", "");
        Check.parses("#a\nb", "[b]", "");
        Check.parses("a#\n#\n#b\nc", "[a, c]", "");
        Check.parses("a##b\n#c#\nd", "[a, d]", "");
        Check.parses("#" + "@".repeat(599), "[]", "");
        Check.parses("a:#b\n c#)", "[a [c]]", "");
        Check.parses("@#@\n@", "[]", "STRAY 0:0, STRAY 1:0");
    }

    private static void joinedLines() {
        Check.sentence(TEXT, "The byte \\ directly before a line end is skipped together with the line end, "
                + "if it is not skipped because of a #.");
        Check.parses("a\\\nb", "[a b]", "");
        Check.parses("a\\ \nb", "[a, b]", "STRAY 0:1");
        Check.parses("a\\b\nc", "[a b, c]", "STRAY 0:1");
        Check.parses("a\\", "[a]", "STRAY 0:1");
        Check.parses("a\\\n", "[a]", "");
        Check.parses("\\\n", "[]", "");
        Check.parses("\\", "[]", "STRAY 0:0");
        Check.parses("a\\\\\nb", "[a b]", "STRAY 0:1");
        Check.parses("a\\#\nb", "[a, b]", "STRAY 0:1");
        Check.parses("a#\\\nb", "[a, b]", "");
        Check.parses("a#b\\\nc", "[a, c]", "");
        Check.parses("a#\\\n\\\nb", "[a b]", "");
        Check.parses("\\\n".repeat(300), "[]", "");
    }

    private static void strayBytes() {
        Check.sentence(TEXT, "Any other byte is skipped with the repair STRAY.");
        for (char c = 32; c <= 126; c++) {
            boolean other = !isLetter(c) && !isDigit(c) && "{}():;# ".indexOf(c) < 0;
            Check.same("that " + c + " is stray", other ? "STRAY 0:2" : "",
                    Check.repairs(Check.parsed("a " + c)).replaceAll("(ALONE|CLOSING|OPEN) 0:[23]", ""));
        }
        Check.parses("@", "[]", "STRAY 0:0");
        Check.parses("a@b", "[a b]", "STRAY 0:1");
        Check.parses("1@2", "[1 2]", "STRAY 0:1");
        Check.parses("(@)", "[()]", "STRAY 0:1");
        Check.same("600 stray bytes", 600, Check.parsed("~".repeat(600)).repairCount());
    }

    private static void firstTokens() {
        Check.sentence(TEXT, "A token is first in its line if no other token is before it in the line");
        Check.parses("a\nb c", "[a, b c]", "");
        Check.parses("a\n@b", "[a b]", "STRAY 1:0");
        Check.parses("@a\n@b", "[a, b]", "STRAY 0:0, STRAY 1:0");
        Check.parses(" a\n)b", "[a, b]", "COLUMN 1:0, CLOSING 1:0");
        Check.parses("  a: b\n)c", "[a [b], c]", "COLUMN 1:0, CLOSING 1:0");
        Check.parses("a: (\nb) c", "[a [(b) c]]", "");
        Check.parses("a: (\n) b", "[a [() b]]", "");
        Check.parses("a: (\n;) b", "[a [() b]]", "STRAY 1:0");
        Check.parses("a: (\n)\nb", "[a [()], b]", "");
    }

    private static void firstTokensOfJoinedLines() {
        Check.sentence(TEXT, "but a token of a line whose line end before it was skipped together with \\ is not first.");
        Check.parses("a\\\nb\nc", "[a b, c]", "");
        Check.parses("a: b\\\nc d\ne", "[a [b c d], e]", "");
        Check.parses("  a\\\nb", "[a b]", "");
        Check.parses("a\\\n\nb", "[a, b]", "");
        Check.parses("a\\\n\\\nb", "[a b]", "");
        Check.parses("a\\\n#\nb", "[a, b]", "");
        Check.parses("a\\\n#\\\nb", "[a, b]", "");
        Check.parses("a\n\\\nb", "[a b]", "");
        Check.parses("\\\n a\nb", "[a, b]", "COLUMN 2:0");
    }

    private static void placesOfTokens() {
        Check.sentence(TEXT, "Line and column of a token are those of its first byte.");
        Check.same("words and numbers", "0:0 0:2 0:2 0:6 0:10", Check.places(Check.parsed("  abc 123 d")));
        Check.same("words behind a joined line", "0:0 0:0 0:0 1:1 2:0", Check.places(Check.parsed("ab\\\n cd\\\nef")));
        Check.same("a group", "0:0 0:1 0:1 0:3", Check.places(Check.parsed(" ( a )")));
        Check.parses("ab ) cde )", "[ab cde]", "CLOSING 0:3, CLOSING 0:9");
    }
}
