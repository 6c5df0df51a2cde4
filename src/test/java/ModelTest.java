import java.util.Random;
import java.util.concurrent.Callable;

/** Runs of calls that a fixed seed chooses, on an OffsideParser and on the Model of the document. */
final class ModelTest {
    private static final int RUNS = 1500;
    private static final int CALLS_OF_A_RUN = 512;

    private final Random random;
    private final int run;
    private final OffsideParser x = new OffsideParser();
    private final Model model = new Model();
    private int calls = 0;

    private ModelTest(int run) {
        this.run = run;
        this.random = new Random(run);
    }

    public static void main(String[] args) {
        int runs = args.length > 0 ? Integer.parseInt(args[0]) : RUNS;
        for (int i = 0; i < runs; i++) {
            new ModelTest(i).play();
        }
        Check.end("ModelTest");
    }

    private static String answer(Callable<?> work) {
        try {
            return String.valueOf(work.call());
        } catch (Exception e) {
            return "throws " + e.getClass().getSimpleName();
        }
    }

    private void both(String call, Callable<?> due, Callable<?> got) {
        if (calls < CALLS_OF_A_RUN) {
            calls++;
            Check.same("run " + run + " call " + calls + ": " + call, answer(due), answer(got));
        }
    }

    private void play() {
        int style = random.nextInt(5);
        int size = random.nextInt(4) == 0 ? random.nextInt(601) : random.nextInt(80);
        write(style, size);
        parse();
        while (calls < CALLS_OF_A_RUN) {
            int what = random.nextInt(100);
            if (what < 50) {
                askNode();
            } else if (what < 62) {
                askRest();
            } else if (what < 94) {
                change();
            } else if (what < 98) {
                int length = random.nextInt(model.text.length() + 3) - 1;
                both("trim(" + length + ")", () -> model.trim(length), () -> x.trim(length));
                write(style, random.nextInt(40));
            } else {
                parse();
            }
        }
    }

    private void parse() {
        both("parse of \"" + model.text + "\"", model::parse, x::parse);
        both("digest()", model::digest, x::digest);
        both("repairCount()", () -> model.repairs.size(), x::repairCount);
        for (int i = 0; i < Math.min(20, model.repairs.size()); i++) {
            int index = i;
            for (int what = 0; what < 3; what++) {
                int part = what;
                both("repair(" + i + ", " + what + ")", () -> model.repair(index, part), () -> x.repair(index, part));
            }
        }
    }

    private String word() {
        String[] words = {"a", "b", "c", "ab", "x1", "abcdefgh", "abcdefghi", "Q"};
        return words[random.nextInt(words.length)];
    }

    private String piece(int style) {
        String[] signs = {":", ":", ":", "{", "}", "(", ")", ";", "\n", "\n", " ", "#", "\\\n", "\\", "@"};
        switch (style) {
            case 0:
                return random.nextInt(3) == 0 ? word() : signs[random.nextInt(signs.length)];
            case 1:
                return "\n" + " ".repeat(random.nextInt(6)) + word() + (random.nextBoolean() ? ":" : "");
            case 2:
                return random.nextInt(8) == 0 ? "\n" + " ".repeat(random.nextInt(9)) : random.nextInt(9) == 0
                        ? signs[random.nextInt(signs.length)] : word() + ":" + (random.nextInt(4) == 0 ? "{" : " ");
            case 3:
                String[] tight = {"a:", "(", "1", "a;", "a:{", "}", ")", ":", "\n"};
                return tight[random.nextInt(random.nextInt(3) == 0 ? tight.length : 5)];
            default:
                return random.nextInt(9) == 0 ? String.valueOf((char) (32 + random.nextInt(95)))
                        : random.nextInt(5) == 0 ? "\n" + " ".repeat(random.nextInt(7))
                        : random.nextInt(3) == 0 ? " " + random.nextInt() % 100 + " "
                        : random.nextInt(3) == 0 ? signs[random.nextInt(signs.length)] : " " + word();
        }
    }

    private void write(int style, int size) {
        StringBuilder s = new StringBuilder();
        while (s.length() < size) {
            s.append(piece(style));
        }
        for (int i = 0; i < s.length(); i += 8) {
            long bytes = Check.pack(s.substring(i, Math.min(i + 8, s.length())));
            both("feed(" + bytes + ")", () -> model.feed(bytes), () -> x.feed(bytes));
        }
        if (random.nextInt(10) == 0) {
            long bytes = random.nextLong() >>> random.nextInt(64);
            both("feed(" + bytes + ")", () -> model.feed(bytes), () -> x.feed(bytes));
        }
        both("length()", () -> model.text.length(), x::length);
    }

    private int anyNode() {
        return random.nextInt(60) == 0 ? farNumber() : random.nextInt(model.all().size() + 2) - 1;
    }

    /** Some of these come back into a row when they are multiplied by the width of its parts. */
    private int farNumber() {
        int[] far = {Integer.MIN_VALUE, Integer.MAX_VALUE, 1 << 30, 613566757, 1431655766, -1431655765, random.nextInt()};
        return far[random.nextInt(far.length)];
    }

    private int smallIndex() {
        return random.nextInt(60) == 0 ? farNumber() : random.nextInt(6) - 1;
    }

    private int nodeOfKind(int kind) {
        int node = anyNode();
        for (int i = 0; i < 20 && random.nextInt(15) > 0; i++) {
            if (node >= 0 && node < model.all().size() && model.node(node).kind == kind) {
                return node;
            }
            node = anyNode();
        }
        return node;
    }

    private void askNode() {
        int n = anyNode();
        int i = smallIndex();
        switch (random.nextInt(9)) {
            case 0:
                both("kind(" + n + ")", () -> model.node(n).kind, () -> x.kind(n));
                break;
            case 1:
                both("parent(" + n + ")", () -> model.parent(n), () -> x.parent(n));
                break;
            case 2:
                both("childCount(" + n + ")", () -> model.node(n).children.size(), () -> x.childCount(n));
                break;
            case 3:
                both("child(" + n + ", " + i + ")", () -> model.child(n, i), () -> x.child(n, i));
                break;
            case 4:
                both("line(" + n + ")", () -> model.node(n).line, () -> x.line(n));
                break;
            case 5:
                both("column(" + n + ")", () -> model.node(n).column, () -> x.column(n));
                break;
            case 6:
                both("value(" + n + ")", () -> model.node(n).value(), () -> x.value(n));
                break;
            case 7:
                both("letter(" + n + ", " + i + ")", () -> model.letter(n, i), () -> x.letter(n, i));
                break;
            default:
                both("depth(" + n + ")", () -> model.depth(n), () -> x.depth(n));
                break;
        }
    }

    private long name() {
        String word = word();
        return random.nextInt(6) == 0 ? random.nextLong() >>> random.nextInt(64)
                : Check.pack(word.substring(0, Math.min(8, word.length())));
    }

    private void askRest() {
        int i = smallIndex();
        long bytes = name();
        switch (random.nextInt(6)) {
            case 0:
                both("nodeCount()", () -> model.all().size(), x::nodeCount);
                break;
            case 1:
                both("wordCount()", model::wordCount, x::wordCount);
                break;
            case 2:
                both("find(" + bytes + ", " + i + ")", () -> model.find(bytes, i), () -> x.find(bytes, i));
                break;
            case 3:
                int index = random.nextInt(model.repairs.size() + 2) - 1;
                int what = random.nextInt(5) - 1;
                both("repair(" + index + ", " + what + ")", () -> model.repair(index, what), () -> x.repair(index, what));
                break;
            case 4:
                boolean columns = random.nextBoolean();
                both("write(" + columns + ")", () -> model.write(columns), () -> x.write(columns));
                break;
            default:
                for (int k = 0; k < 6; k++) {
                    int at = random.nextInt(model.out.length() + 2) - 1;
                    both("written(" + at + ")", () -> model.written(at), () -> x.written(at));
                }
                break;
        }
    }

    private void change() {
        int item = nodeOfKind(1);
        int block = nodeOfKind(0);
        int word = nodeOfKind(2);
        int index = smallIndex();
        long bytes = name();
        switch (random.nextInt(12)) {
            case 0:
                both("remove(" + item + ")", () -> model.remove(item), () -> x.remove(item));
                break;
            case 1:
            case 2:
                both("rename(" + word + ", " + bytes + ")", () -> model.rename(word, bytes), () -> x.rename(word, bytes));
                break;
            default:
                both("move(" + item + ", " + block + ", " + index + ")",
                        () -> model.move(item, block, index), () -> x.move(item, block, index));
                break;
        }
        both("digest()", model::digest, x::digest);
    }
}
