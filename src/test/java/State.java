import java.util.function.Supplier;

/**
 * All that an object answers, as one text. It needs more calls than one object is good for, so it
 * makes the same object again and again.
 */
final class State {
    private static final int CALLS_OF_ONE_OBJECT = 300;

    private final Supplier<OffsideParser> maker;
    private final StringBuilder out = new StringBuilder();
    private OffsideParser object;
    private int calls = CALLS_OF_ONE_OBJECT;

    private State(Supplier<OffsideParser> maker) {
        this.maker = maker;
    }

    /** What is kept, and then what the kept text becomes when it is parsed. */
    static String of(Supplier<OffsideParser> maker) {
        String kept = new State(maker).show();
        String again = new State(() -> {
            OffsideParser x = maker.get();
            x.parse();
            return x;
        }).show();
        return kept + " parsed: " + again;
    }

    private OffsideParser x() {
        if (calls >= CALLS_OF_ONE_OBJECT) {
            object = maker.get();
            calls = 0;
        }
        calls++;
        return object;
    }

    private void put(String name, long number) {
        out.append(' ').append(name).append(number);
    }

    private String show() {
        put("length ", x().length());
        put("nodes ", x().nodeCount());
        put("digest ", x().digest());
        put("words ", x().wordCount());
        int nodes = x().nodeCount();
        for (int node = 0; node < nodes; node++) {
            showNode(node);
        }
        int repairs = x().repairCount();
        put("repairs ", repairs);
        for (int i = 0; i < repairs; i++) {
            put("kind ", x().repair(i, 0));
            put("line ", x().repair(i, 1));
            put("column ", x().repair(i, 2));
        }
        showWritten();
        return out.toString();
    }

    private void showNode(int node) {
        put("\nnode ", node);
        put("kind ", x().kind(node));
        put("parent ", x().parent(node));
        put("line ", x().line(node));
        put("column ", x().column(node));
        put("value ", x().value(node));
        put("depth ", x().depth(node));
        int children = x().childCount(node);
        for (int i = 0; i < children; i++) {
            put("child ", x().child(node, i));
        }
        int letters = x().kind(node) == 2 ? x().value(node) : 0;
        long bytes = 0;
        for (int i = 0; i < letters; i++) {
            int letter = x().letter(node, i);
            put("letter ", letter);
            bytes = bytes << 8 | letter;
        }
        if (letters > 0 && letters <= 8) {
            put("found ", x().find(bytes, 0));
        }
    }

    /** There is no call that tells how long what was written is, so this asks until it is refused. */
    private void showWritten() {
        out.append(" written ");
        boolean more = true;
        for (int i = 0; more; i++) {
            try {
                out.append((char) x().written(i));
            } catch (IndexOutOfBoundsException e) {
                more = false;
            }
        }
    }
}
