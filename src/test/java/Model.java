import java.util.ArrayList;
import java.util.HashSet;
import java.util.List;

/**
 * The document once more, in another way: objects that hold their children, tokens that are read
 * before they are parsed, and numbers that are counted when they are asked for. It is slow and plain,
 * and is there for ModelTest to compare with.
 */
final class Model {
    static final class Node {
        int kind;
        boolean braced;
        int line;
        int column;
        int number;
        String word = "";
        Node parent;
        final List<Node> children = new ArrayList<>();

        Node(int kind, int line, int column) {
            this.kind = kind;
            this.line = line;
            this.column = column;
        }

        Node put(Node child) {
            child.parent = this;
            children.add(child);
            return child;
        }

        int value() {
            return kind == 3 ? number : kind == 2 ? word.length() : braced ? 1 : 0;
        }
    }

    private static final class Token {
        String bytes;
        int line;
        int column;
        boolean first;
        int offset;

        boolean is(String sign) {
            return bytes.equals(sign);
        }

        boolean isLeaf() {
            return Character.isLetterOrDigit(bytes.charAt(0));
        }
    }

    /** A block or group that is open; a column of null stands for none. */
    private static final class Open {
        Node node;
        Integer column;
        Node item;

        Open(Node node, Integer column) {
            this.node = node;
            this.column = column;
        }
    }

    String text = "";
    Node root = new Node(0, 0, 0);
    List<int[]> repairs = new ArrayList<>();
    String out = "";

    private List<Open> open;

    static String unpack(long bytes) {
        StringBuilder s = new StringBuilder();
        for (int i = 7; i >= 0; i--) {
            char c = (char) (bytes >> 8 * i & 255);
            if (c != 0) {
                s.append(c);
            }
        }
        return s.toString();
    }

    int feed(long bytes) {
        String more = unpack(bytes);
        for (char c : more.toCharArray()) {
            if (c != 10 && (c < 32 || c > 126)) {
                throw new IllegalArgumentException();
            }
        }
        if ((text + more).length() > 600) {
            throw new IllegalStateException();
        }
        text += more;
        return text.length();
    }

    int trim(int length) {
        if (length < 0 || length > text.length()) {
            throw new IllegalArgumentException();
        }
        int before = text.length();
        text = text.substring(0, length);
        return before;
    }

    int parse() {
        List<int[]> found = new ArrayList<>();
        List<Token> tokens = tokens(found);
        root = new Node(0, 0, 0);
        open = new ArrayList<>();
        open.add(new Open(root, tokens.isEmpty() ? 0 : tokens.get(0).column));
        boolean colon = false;
        for (Token t : tokens) {
            colon = step(t, colon, found);
        }
        String[] lines = text.split("\n", -1);
        Token end = new Token();
        end.bytes = "";
        end.line = lines.length - 1;
        end.column = lines[lines.length - 1].length();
        end.offset = text.length();
        if (colon) {
            top().item.put(new Node(0, end.line, end.column));
        }
        for (int i = open.size() - 1; i > 0; i--) {
            if (open.get(i).node.kind == 4 || open.get(i).node.braced) {
                repair(found, 6, end);
            }
        }
        found.sort((a, b) -> Integer.compare(a[3], b[3]));
        repairs = found;
        return all().size();
    }

    private List<Token> tokens(List<int[]> found) {
        List<Token> tokens = new ArrayList<>();
        String[] lines = text.split("\n", -1);
        int offset = 0;
        boolean joined = false;
        for (int line = 0; line < lines.length; line++) {
            String s = lines[line];
            int hash = s.indexOf('#');
            boolean joins = hash < 0 && s.endsWith("\\") && line < lines.length - 1;
            int end = hash >= 0 ? hash : joins ? s.length() - 1 : s.length();
            boolean first = !joined;
            for (int at = 0; at < end;) {
                int next = at + 1;
                String rest = s.substring(at, end);
                String run = rest.replaceFirst("^([A-Za-z][A-Za-z0-9]*|[0-9]+|[{}():;]).*$", "$1");
                if (rest.matches("(?s)[A-Za-z0-9{}():;].*")) {
                    Token t = new Token();
                    t.bytes = run;
                    t.line = line;
                    t.column = at;
                    t.first = first;
                    t.offset = offset + at;
                    tokens.add(t);
                    first = false;
                    next = at + run.length();
                } else if (s.charAt(at) != ' ') {
                    found.add(new int[] {1, line, at, offset + at});
                }
                at = next;
            }
            joined = joins;
            offset += s.length() + 1;
        }
        return tokens;
    }

    private static void repair(List<int[]> found, int kind, Token t) {
        found.add(new int[] {kind, t.line, t.column, t.offset});
    }

    private Open top() {
        return open.get(open.size() - 1);
    }

    /** Answers whether the token is a colon that is not skipped. */
    private boolean step(Token t, boolean afterColon, List<int[]> found) {
        boolean deep = open.size() - 1 >= 30;
        if (top().node.kind == 4) {
            if (t.is("(") && deep) {
                repair(found, 5, t);
            } else if (t.is("(")) {
                open.add(new Open(top().node.put(new Node(4, t.line, t.column)), null));
            } else if (t.is(")")) {
                open.remove(open.size() - 1);
            } else if (t.isLeaf()) {
                top().node.put(leaf(t));
            } else {
                repair(found, 1, t);
            }
            return false;
        }
        boolean leaveOut = false;
        if (afterColon) {
            Node block = new Node(0, t.line, t.column);
            top().item.put(block);
            if (t.is("{")) {
                block.braced = true;
                open.add(new Open(block, null));
                return false;
            }
            if ((t.isLeaf() || t.is("(")) && (top().column == null || top().column < t.column)) {
                open.add(new Open(block, t.column));
                leaveOut = true;
            }
        }
        if (!leaveOut && t.first && top().column != null) {
            align(t, found);
        }
        return place(t, found);
    }

    private void align(Token t, List<int[]> found) {
        boolean closed = false;
        while (top().column != null && top().column > t.column && top().node != root) {
            open.remove(open.size() - 1);
            closed = true;
        }
        if (top().column == null) {
            return;
        }
        if (top().column == t.column) {
            top().item = null;
        } else if (top().column > t.column || closed) {
            repair(found, 2, t);
            top().item = null;
        }
    }

    private boolean place(Token t, List<int[]> found) {
        boolean deep = open.size() - 1 >= 30;
        if (t.isLeaf()) {
            item(t).put(leaf(t));
        } else if (t.is("(")) {
            if (deep) {
                repair(found, 5, t);
            } else {
                open.add(new Open(item(t).put(new Node(4, t.line, t.column)), null));
            }
        } else if (t.is(";")) {
            top().item = null;
        } else if (t.is(":")) {
            if (top().item == null) {
                repair(found, 3, t);
            } else if (deep) {
                repair(found, 5, t);
            } else {
                return true;
            }
        } else if (t.is("{")) {
            repair(found, 3, t);
        } else if (t.is(")")) {
            repair(found, 4, t);
        } else {
            int i = open.size() - 1;
            while (i >= 0 && !open.get(i).node.braced) {
                i--;
            }
            if (i < 0) {
                repair(found, 4, t);
            } else {
                open.subList(i, open.size()).clear();
            }
        }
        return false;
    }

    private Node item(Token t) {
        if (top().item == null) {
            top().item = top().node.put(new Node(1, t.line, t.column));
        }
        return top().item;
    }

    private static Node leaf(Token t) {
        boolean word = Character.isLetter(t.bytes.charAt(0));
        Node n = new Node(word ? 2 : 3, t.line, t.column);
        if (word) {
            n.word = t.bytes;
        } else {
            n.number = new java.math.BigInteger(t.bytes).mod(java.math.BigInteger.valueOf(1000000000)).intValue();
        }
        return n;
    }

    List<Node> all() {
        List<Node> nodes = new ArrayList<>();
        collect(root, nodes);
        return nodes;
    }

    private static void collect(Node n, List<Node> nodes) {
        nodes.add(n);
        for (Node child : n.children) {
            collect(child, nodes);
        }
    }

    Node node(int number) {
        List<Node> nodes = all();
        if (number < 0 || number >= nodes.size()) {
            throw new IndexOutOfBoundsException();
        }
        return nodes.get(number);
    }

    int numberOf(Node n) {
        return all().indexOf(n);
    }

    int repair(int index, int what) {
        if (index < 0 || index >= repairs.size() || what < 0 || what > 2) {
            throw new IndexOutOfBoundsException();
        }
        return repairs.get(index)[what];
    }

    int parent(int node) {
        return numberOf(node(node).parent);
    }

    int child(int node, int index) {
        Node n = node(node);
        if (index < 0 || index >= n.children.size()) {
            throw new IndexOutOfBoundsException();
        }
        return numberOf(n.children.get(index));
    }

    int letter(int node, int index) {
        String word = node(node).word;
        return index < 0 || index >= word.length() ? -1 : word.charAt(index);
    }

    int depth(int node) {
        int blocks = 0;
        for (Node up = node(node).parent; up != null; up = up.parent) {
            blocks += up.kind == 0 ? 1 : 0;
        }
        return blocks;
    }

    int find(long bytes, int index) {
        List<Integer> found = new ArrayList<>();
        List<Node> nodes = all();
        for (int i = 0; i < nodes.size(); i++) {
            if (nodes.get(i).kind == 2 && nodes.get(i).word.equals(unpack(bytes))) {
                found.add(i);
            }
        }
        return index < 0 || index >= found.size() ? -1 : found.get(index);
    }

    int wordCount() {
        HashSet<String> words = new HashSet<>();
        for (Node n : all()) {
            if (n.kind == 2) {
                words.add(n.word);
            }
        }
        return words.size();
    }

    int remove(int node) {
        Node n = node(node);
        if (n.kind != 1) {
            throw new IllegalArgumentException();
        }
        n.parent.children.remove(n);
        return all().size();
    }

    int move(int node, int block, int index) {
        Node n = node(node);
        Node b = node(block);
        if (n.kind != 1 || b.kind != 0) {
            throw new IllegalArgumentException();
        }
        int around = 0;
        for (Node up = b; up != null; up = up.parent) {
            if (up == n) {
                throw new IllegalArgumentException();
            }
            around += up != root && up.kind == 0 ? 1 : 0;
        }
        int others = b.children.size() - (n.parent == b ? 1 : 0);
        if (around + height(n) > 30 || index < 0 || index > others) {
            throw new IllegalArgumentException();
        }
        n.parent.children.remove(n);
        b.children.add(index, n);
        n.parent = b;
        return numberOf(n);
    }

    private static int height(Node n) {
        int most = 0;
        for (Node child : n.children) {
            most = Math.max(most, height(child));
        }
        return most + (n.kind == 0 || n.kind == 4 ? 1 : 0);
    }

    int rename(int node, long bytes) {
        Node n = node(node);
        String word = unpack(bytes);
        if (n.kind != 2 || !word.matches("[A-Za-z][A-Za-z0-9]*") || word.endsWith("\n")) {
            throw new IllegalArgumentException();
        }
        n.word = word;
        return word.length();
    }

    int write(boolean withColumns) {
        StringBuilder s = new StringBuilder();
        for (Node item : root.children) {
            s.append(withColumns ? inColumns(item, "") : inLine(item.children) + "\n");
        }
        out = s.toString();
        return out.length();
    }

    private static String inColumns(Node item, String indent) {
        int size = item.children.size();
        if (size == 0 || item.children.get(size - 1).kind != 0) {
            return indent + inLine(item.children) + "\n";
        }
        StringBuilder s = new StringBuilder(indent + inLine(item.children.subList(0, size - 1)) + ":\n");
        for (Node inner : item.children.get(size - 1).children) {
            s.append(inColumns(inner, indent + "  "));
        }
        return s.toString();
    }

    private static String inLine(List<Node> parts) {
        StringBuilder s = new StringBuilder();
        for (Node part : parts) {
            if (part.kind == 0) {
                List<String> items = new ArrayList<>();
                for (Node item : part.children) {
                    items.add(inLine(item.children));
                }
                s.append(": {").append(items.isEmpty() ? "" : " ").append(String.join("; ", items)).append(" }");
            } else {
                s.append(s.length() == 0 ? "" : " ");
                s.append(part.kind == 2 ? part.word : part.kind == 3 ? "" + part.number : "(" + inLine(part.children) + ")");
            }
        }
        return s.toString();
    }

    int written(int index) {
        if (index < 0 || index >= out.length()) {
            throw new IndexOutOfBoundsException();
        }
        return out.charAt(index);
    }

    long digest() {
        List<Node> nodes = all();
        long d = (73L * 31 + text.length()) * 31 + nodes.size();
        for (Node n : nodes) {
            d = ((d * 31 + n.kind) * 31 + n.children.size()) * 31 + n.value();
            for (char c : n.word.toCharArray()) {
                d = d * 31 + c;
            }
        }
        return (d * 31 + repairs.size()) * 31 + wordCount();
    }
}
