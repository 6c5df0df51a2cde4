import java.util.concurrent.Callable;

/** What the tests share: counting wrong answers, feeding texts, and showing trees as text. */
final class Check {
    private static int wrong = 0;
    private static int asked = 0;
    private static String sentence = "";

    private Check() {
    }

    /** Says which words of the document the next answers are about; wrong ones are printed below them. */
    static void sentence(String section, String words) {
        sentence = "[" + section + "] " + words;
        Document.isTested(section, words);
    }

    static void same(String call, Object want, Object got) {
        asked++;
        if (!want.equals(got)) {
            tell(call + " answered " + show(got) + ", due is " + show(want));
        }
    }

    private static void tell(String what) {
        wrong++;
        if (!sentence.isEmpty()) {
            System.out.println(sentence);
        }
        System.out.println(what.replace("\n", "\\n"));
    }

    static void refuses(String call, Class<? extends Exception> due, Callable<?> work) {
        asked++;
        try {
            Object got = work.call();
            tell(call + " answered " + got + ", due is " + due.getSimpleName());
        } catch (Exception e) {
            // A class below the due one is the machine's own, and is wrong as well.
            if (e.getClass() != due) {
                tell(call + " threw " + e + ", due is " + due.getSimpleName());
            }
        }
    }

    static void end(String test) {
        System.out.println(test + ": " + asked + " answers, " + wrong + " wrong");
        if (wrong != 0) {
            System.exit(1);
        }
    }

    private static String show(Object o) {
        return o.toString().replace("\\", "\\\\").replace("\n", "\\n");
    }

    /** Up to 8 characters as feed, find and rename take them. */
    static long pack(String s) {
        if (s.length() > 8) {
            throw new IllegalArgumentException(s);
        }
        long bytes = 0;
        for (int i = 0; i < s.length(); i++) {
            bytes = bytes << 8 | s.charAt(i);
        }
        return bytes;
    }

    static void feedText(OffsideParser x, String text) {
        for (int i = 0; i < text.length(); i += 8) {
            x.feed(pack(text.substring(i, Math.min(i + 8, text.length()))));
        }
    }

    static OffsideParser fed(String text) {
        OffsideParser x = new OffsideParser();
        feedText(x, text);
        return x;
    }

    static OffsideParser parsed(String text) {
        OffsideParser x = fed(text);
        x.parse();
        return x;
    }

    /** Checks tree and repairs of a text, and answers the object for more questions. */
    static OffsideParser parses(String text, String tree, String repairs) {
        // Each answer comes from an object of its own, since no object is good for more than 512 calls.
        same("tree of \"" + text + "\"", tree, tree(parsed(text)));
        same("repairs of \"" + text + "\"", repairs, repairs(parsed(text)));
        return parsed(text);
    }

    /**
     * The tree in one line: [items] or {items} for a block, (parts) for a group. It asks as little as it can,
     * since nothing is promised about an object after its 512th call.
     */
    static String tree(OffsideParser x) {
        StringBuilder out = new StringBuilder();
        showNode(x, 0, out);
        return out.toString();
    }

    private static void showNode(OffsideParser x, int node, StringBuilder out) {
        int kind = x.kind(node);
        if (kind == 2) {
            int letter = x.letter(node, 0);
            for (int i = 1; letter != -1; i++) {
                out.append((char) letter);
                letter = x.letter(node, i);
            }
        } else if (kind == 3) {
            out.append(x.value(node));
        } else {
            boolean braced = kind == 0 && x.value(node) == 1;
            out.append(kind == 0 ? braced ? "{" : "[" : kind == 4 ? "(" : "");
            int children = x.childCount(node);
            for (int i = 0; i < children; i++) {
                out.append(i == 0 ? "" : kind == 0 ? ", " : " ");
                showNode(x, x.child(node, i), out);
            }
            out.append(kind == 0 ? braced ? "}" : "]" : kind == 4 ? ")" : "");
        }
    }

    /** The repairs in one line, each one as KIND line:column. */
    static String repairs(OffsideParser x) {
        String[] names = {"?", "STRAY", "COLUMN", "ALONE", "CLOSING", "DEEP", "OPEN"};
        StringBuilder out = new StringBuilder();
        int count = x.repairCount();
        for (int i = 0; i < count; i++) {
            out.append(i == 0 ? "" : ", ").append(names[x.repair(i, 0)]);
            out.append(' ').append(x.repair(i, 1)).append(':').append(x.repair(i, 2));
        }
        return out.toString();
    }

    /** Line and column of each node, in the order of their numbers. */
    static String places(OffsideParser x) {
        StringBuilder out = new StringBuilder();
        for (int node = 0; node < x.nodeCount(); node++) {
            out.append(node == 0 ? "" : " ").append(x.line(node)).append(':').append(x.column(node));
        }
        return out.toString();
    }

    static String written(OffsideParser x, boolean withColumns) {
        int size = x.write(withColumns);
        StringBuilder out = new StringBuilder();
        for (int i = 0; i < size; i++) {
            out.append((char) x.written(i));
        }
        return out.toString();
    }
}
