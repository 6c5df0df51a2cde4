import java.util.LinkedHashMap;
import java.util.Map;
import java.util.function.Function;
import java.util.function.Supplier;

/** "A method that throws an exception changes nothing. If several exceptions apply, the one that is named first is thrown." */
final class Refusals {
    private static final Class<IndexOutOfBoundsException> OUTSIDE = IndexOutOfBoundsException.class;
    private static final Class<IllegalArgumentException> WRONG = IllegalArgumentException.class;
    private static final Class<IllegalStateException> FULL = IllegalStateException.class;
    private static final int LEAST = Integer.MIN_VALUE;
    private static final int MOST = Integer.MAX_VALUE;

    private final String name;
    private final Supplier<OffsideParser> maker;
    private final String before;

    private Refusals(String name, Supplier<OffsideParser> maker) {
        this.name = name;
        this.maker = maker;
        this.before = State.of(maker);
    }

    static void run() {
        Check.sentence("Description", "A method that throws an exception changes nothing.");
        for (Map.Entry<String, Supplier<OffsideParser>> state : states().entrySet()) {
            Refusals r = new Refusals(state.getKey(), state.getValue());
            r.ofTexts();
            r.ofRepairs();
            r.ofNodes();
            r.ofChanges();
            r.ofWritten();
            r.ofQuestions();
        }
        Check.sentence("Description", "If several exceptions apply, the one that is named first is thrown.");
        for (Map.Entry<String, Supplier<OffsideParser>> state : states().entrySet()) {
            new Refusals(state.getKey(), state.getValue()).byTwoReasons();
        }
    }

    /** Objects in which text, tree, repairs and what was written are all different things. */
    private static Map<String, Supplier<OffsideParser>> states() {
        Map<String, Supplier<OffsideParser>> states = new LinkedHashMap<>();
        states.put("new", OffsideParser::new);
        states.put("fed", () -> Check.fed("a:{b @"));
        states.put("parsed", () -> Check.parsed("a 12 (b):{c;d:e} f @\n) g:"));
        states.put("written", () -> {
            OffsideParser x = Check.parsed("a:{b;c};d (1) ]");
            x.write(true);
            return x;
        });
        states.put("changed", () -> {
            OffsideParser x = Check.parsed("a:{b;c};d (1) ];efghijklmnop:{q}");
            x.write(false);
            x.move(8, 3, 1);
            x.rename(2, Check.pack("renamed1"));
            x.remove(4);
            x.trim(9);
            x.feed(Check.pack(" $ u:v"));
            return x;
        });
        states.put("emptied", () -> {
            OffsideParser x = Check.parsed("a;b )");
            x.write(true);
            x.trim(0);
            x.parse();
            return x;
        });
        states.put("full", () -> {
            OffsideParser x = Check.parsed("a:{b;(c)} \\\n# " + ") ".repeat(5) + "\n" + "x".repeat(575));
            x.write(false);
            return x;
        });
        states.put("deep", () -> Check.parsed("a:".repeat(30) + "b:\nc:{}(d)"));
        return states;
    }

    /** Answers whether the text is full, as the state of that name must be. */
    private boolean isFull() {
        boolean full = maker.get().length() == 600;
        Check.same("that this text is full: " + name, name.equals("full"), full);
        return full;
    }

    private void refused(String call, Class<? extends Exception> due, Function<OffsideParser, Object> work) {
        String at = name + ": " + call;
        Check.refuses(at, due, () -> work.apply(maker.get()));
        Check.same("state behind " + at, before, State.of(() -> {
            OffsideParser x = maker.get();
            try {
                work.apply(x);
            } catch (RuntimeException e) {
                // Which one it is was looked at above.
            }
            return x;
        }));
    }

    private void ofTexts() {
        for (int b : new int[] {1, 9, 11, 31, 127, 128, 255}) {
            refused("feed of byte " + b, WRONG, x -> x.feed(b));
            refused("feed of a letter and byte " + b, WRONG, x -> x.feed('a' << 8 | b));
            refused("feed of byte " + b + " and seven letters", WRONG, x -> x.feed((long) b << 56 | 0x61616161616161L));
        }
        refused("feed(-1)", WRONG, x -> x.feed(-1L));
        int length = maker.get().length();
        for (int wrong : new int[] {-1, length + 1, LEAST, MOST}) {
            refused("trim(" + wrong + ")", WRONG, x -> x.trim(wrong));
        }
        if (isFull()) {
            refused("feed of one byte", FULL, x -> x.feed('z'));
            refused("feed of eight bytes", FULL, x -> x.feed(Check.pack("zzzzzzzz")));
        }
    }

    private void ofRepairs() {
        int count = maker.get().repairCount();
        for (int wrong : new int[] {-1, count, LEAST, MOST}) {
            refused("repair(" + wrong + ", 0)", OUTSIDE, x -> x.repair(wrong, 0));
        }
        for (int wrong : new int[] {-1, 3, LEAST, MOST}) {
            refused("repair(0, " + wrong + ")", OUTSIDE, x -> x.repair(0, wrong));
        }
    }

    private void ofNodes() {
        int count = maker.get().nodeCount();
        for (int wrong : new int[] {-1, count, LEAST, MOST}) {
            refused("kind(" + wrong + ")", OUTSIDE, x -> x.kind(wrong));
            refused("parent(" + wrong + ")", OUTSIDE, x -> x.parent(wrong));
            refused("childCount(" + wrong + ")", OUTSIDE, x -> x.childCount(wrong));
            refused("child(" + wrong + ", 0)", OUTSIDE, x -> x.child(wrong, 0));
            refused("child(0, " + wrong + ")", OUTSIDE, x -> x.child(0, wrong));
            refused("line(" + wrong + ")", OUTSIDE, x -> x.line(wrong));
            refused("column(" + wrong + ")", OUTSIDE, x -> x.column(wrong));
            refused("value(" + wrong + ")", OUTSIDE, x -> x.value(wrong));
            refused("letter(" + wrong + ", 0)", OUTSIDE, x -> x.letter(wrong, 0));
            refused("depth(" + wrong + ")", OUTSIDE, x -> x.depth(wrong));
            refused("remove(" + wrong + ")", OUTSIDE, x -> x.remove(wrong));
            refused("move(" + wrong + ", 0, 0)", OUTSIDE, x -> x.move(wrong, 0, 0));
            refused("move(0, " + wrong + ", 0)", OUTSIDE, x -> x.move(0, wrong, 0));
            refused("rename(" + wrong + ", a)", OUTSIDE, x -> x.rename(wrong, 'a'));
        }
    }

    private void ofChanges() {
        OffsideParser asked = maker.get();
        int count = Math.min(asked.nodeCount(), 30);
        for (int i = 0; i < count; i++) {
            int node = i;
            int kind = asked.kind(node);
            if (kind == 2) {
                refused("rename(" + node + ", nothing)", WRONG, x -> x.rename(node, 0L));
                refused("rename(" + node + ", 1)", WRONG, x -> x.rename(node, '1'));
                refused("rename(" + node + ", a b)", WRONG, x -> x.rename(node, Check.pack("newer b")));
                refused("rename(" + node + ", -1)", WRONG, x -> x.rename(node, -1L));
            } else {
                refused("rename(" + node + ", a) of kind " + kind, WRONG, x -> x.rename(node, 'a'));
            }
            if (kind == 1) {
                refusedMovesOf(node, asked.childCount(0) - (asked.parent(node) == 0 ? 1 : 0));
            } else {
                refused("remove(" + node + ") of kind " + kind, WRONG, x -> x.remove(node));
                refused("move(" + node + ", 0, 0) of kind " + kind, WRONG, x -> x.move(node, 0, 0));
            }
        }
        if (name.equals("deep")) {
            int item = asked.child(0, 1);
            refused("move of a group below 30", WRONG, x -> x.move(item, 90, 0));
            refused("move of 30 blocks to a block", WRONG, x -> x.move(1, asked.child(item, 1), 0));
        }
    }

    private void refusedMovesOf(int item, int others) {
        for (int wrong : new int[] {-1, others + 1, LEAST, MOST}) {
            refused("move(" + item + ", 0, " + wrong + ")", WRONG, x -> x.move(item, 0, wrong));
        }
        refused("move(" + item + ") to itself", WRONG, x -> x.move(item, item, 0));
        refused("move(" + item + ") to its first part", WRONG, x -> x.move(item, item + 1, 0));
        OffsideParser asked = maker.get();
        for (int i = 0; i < asked.childCount(item); i++) {
            int part = asked.child(item, i);
            refused("move(" + item + ") to its part " + part, WRONG, x -> x.move(item, part, 0));
        }
    }

    private void ofWritten() {
        int size = 0;
        boolean more = true;
        OffsideParser asked = maker.get();
        while (more && size < 300) {
            try {
                asked.written(size);
                size++;
            } catch (IndexOutOfBoundsException e) {
                more = false;
            }
        }
        int end = name.equals("full") ? asked.write(false) : size;
        for (int wrong : new int[] {-1, end, LEAST, MOST}) {
            refused("written(" + wrong + ")", OUTSIDE, x -> x.written(wrong));
        }
    }

    /** What only asks changes nothing either, whether it finds something or not. */
    private void ofQuestions() {
        Check.same("state behind questions, " + name, before, State.of(() -> {
            OffsideParser x = maker.get();
            int last = x.nodeCount() - 1;
            x.digest();
            x.wordCount();
            x.repairCount();
            x.parent(last);
            x.childCount(last);
            x.depth(last);
            x.letter(last, 0);
            x.letter(last, 999);
            x.letter(0, 0);
            x.find('a', 0);
            x.find('a', 99);
            x.find(0L, 0);
            x.find(-1L, -1);
            x.feed(0L);
            x.trim(x.length());
            return x;
        }));
    }

    /** Each call for which the document names two exceptions, with reasons for both. */
    private void byTwoReasons() {
        OffsideParser asked = maker.get();
        int nodes = asked.nodeCount();
        if (isFull()) {
            refused("feed of a wrong byte to a full text", WRONG, x -> x.feed(127L));
            refused("feed of a right and a wrong byte to a full text", WRONG, x -> x.feed(0x6109L));
            refused("feed of a wrong and seven right bytes to a full text", WRONG, x -> x.feed(-1L << 56 | 0x61616161616161L));
        }
        for (int wrong : new int[] {-1, nodes, LEAST, MOST}) {
            refused("rename(" + wrong + ", nothing)", OUTSIDE, x -> x.rename(wrong, 0L));
            refused("rename(" + wrong + ", 1)", OUTSIDE, x -> x.rename(wrong, '1'));
            refused("rename(" + wrong + ", -1)", OUTSIDE, x -> x.rename(wrong, -1L));
            refused("move(0, " + wrong + ", 0), not an item", OUTSIDE, x -> x.move(0, wrong, 0));
            refused("move(" + wrong + ", 0, -1), a negative index", OUTSIDE, x -> x.move(wrong, 0, -1));
            refused("move(" + wrong + ", 0, MOST), a great index", OUTSIDE, x -> x.move(wrong, 0, MOST));
            refused("move(0, " + wrong + ", -1), all wrong", OUTSIDE, x -> x.move(0, wrong, -1));
            refused("move(" + wrong + ", " + (nodes - 1) + ", -1)", OUTSIDE, x -> x.move(wrong, nodes - 1, -1));
            refused("move(" + (nodes - 1) + ", " + wrong + ", -1)", OUTSIDE, x -> x.move(nodes - 1, wrong, -1));
            refused("child(" + wrong + ", -1)", OUTSIDE, x -> x.child(wrong, -1));
            refused("letter(" + wrong + ", -1)", OUTSIDE, x -> x.letter(wrong, -1));
            refused("repair(" + wrong + ", 3)", OUTSIDE, x -> x.repair(wrong, 3));
        }
    }
}
