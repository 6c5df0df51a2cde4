import java.util.Arrays;

/**
 * A parser for texts whose blocks are told by columns, or by braces. It makes a tree of every text,
 * and repairs what does not fit; the tree can be changed, and written again with braces or with columns.
 */
public final class OffsideParser {

    private static final int LONGEST_TEXT = 600;
    private static final int DEEPEST_NESTING = 30;
    private static final int PACKED_BYTES = 8;
    private static final int NONE = -1;

    private static final int BLOCK = 0;
    private static final int ITEM = 1;
    private static final int WORD = 2;
    private static final int NUMBER = 3;
    private static final int GROUP = 4;

    private static final int STRAY = 1;
    private static final int COLUMN = 2;
    private static final int ALONE = 3;
    private static final int CLOSING = 4;
    private static final int DEEP = 5;
    private static final int OPEN = 6;

    private static final int LINE_END = 10;

    private final Row text;
    private final Row unpacked;
    private final Repairs repairs;
    private final Tree tree;
    private final Lexer lexer;
    private final Builder builder;
    private final Printer printer;

    public OffsideParser() {
        text = new Row();
        unpacked = new Row();
        repairs = new Repairs();
        tree = new Tree();
        lexer = new Lexer(text, repairs);
        builder = new Builder(text, lexer, tree, repairs);
        printer = new Printer(tree);
        tree.startAgain();
    }

    public int feed(long bytes) throws IllegalArgumentException, IllegalStateException {
        unpack(bytes);
        for (int i = 0; i < unpacked.size(); i++) {
            if (!isTextByte(unpacked.at(i))) {
                throw new IllegalArgumentException("a byte that no text may have");
            }
        }
        if (text.size() + unpacked.size() > LONGEST_TEXT) {
            throw new IllegalStateException("the text would be too long");
        }
        for (int i = 0; i < unpacked.size(); i++) {
            text.push(unpacked.at(i));
        }
        return text.size();
    }

    public int trim(int length) throws IllegalArgumentException {
        int before = text.size();
        if (length < 0 || length > before) {
            throw new IllegalArgumentException("not a length within the text");
        }
        text.cut(length);
        return before;
    }

    public int length() {
        return text.size();
    }

    public int parse() {
        repairs.startAgain();
        tree.startAgain();
        lexer.startAgain();
        builder.startAgain();
        // A token has at least one byte, so the text's length bounds their number.
        for (int tokens = 0; tokens <= LONGEST_TEXT && lexer.readToken(); tokens++) {
            builder.take();
        }
        builder.finish();
        return tree.size();
    }

    public int repairCount() {
        return repairs.size();
    }

    public int repair(int index, int what) throws IndexOutOfBoundsException {
        if (index < 0 || index >= repairs.size() || what < 0 || what >= Repairs.WIDTH) {
            throw new IndexOutOfBoundsException("no such repair");
        }
        return repairs.get(index, what);
    }

    public int nodeCount() {
        return tree.size();
    }

    public int kind(int node) throws IndexOutOfBoundsException {
        checkNode(node);
        return tree.get(node, Tree.KIND);
    }

    public int parent(int node) throws IndexOutOfBoundsException {
        checkNode(node);
        return tree.holder(node);
    }

    public int childCount(int node) throws IndexOutOfBoundsException {
        checkNode(node);
        return tree.countChildren(node);
    }

    public int child(int node, int index) throws IndexOutOfBoundsException {
        checkNode(node);
        int found = tree.nthChild(node, index);
        if (found == NONE) {
            throw new IndexOutOfBoundsException("no such child");
        }
        return found;
    }

    public int line(int node) throws IndexOutOfBoundsException {
        checkNode(node);
        return tree.get(node, Tree.AT_LINE);
    }

    public int column(int node) throws IndexOutOfBoundsException {
        checkNode(node);
        return tree.get(node, Tree.AT_COLUMN);
    }

    public int value(int node) throws IndexOutOfBoundsException {
        checkNode(node);
        return tree.get(node, Tree.VALUE);
    }

    public int letter(int node, int index) throws IndexOutOfBoundsException {
        checkNode(node);
        return tree.is(node, WORD) ? tree.letterOf(node, index) : NONE;
    }

    public int depth(int node) throws IndexOutOfBoundsException {
        checkNode(node);
        return tree.get(node, Tree.DEPTH);
    }

    public int find(long bytes, int index) {
        unpack(bytes);
        return tree.nthWord(unpacked, index);
    }

    public int wordCount() {
        return tree.countDifferentWords();
    }

    public int remove(int node) throws IndexOutOfBoundsException, IllegalArgumentException {
        checkNode(node);
        if (!tree.is(node, ITEM)) {
            throw new IllegalArgumentException("only an item can be removed");
        }
        tree.erase(node);
        return tree.size();
    }

    public int move(int node, int block, int index) throws IndexOutOfBoundsException, IllegalArgumentException {
        checkNode(node);
        checkNode(block);
        if (!tree.is(node, ITEM) || !tree.is(block, BLOCK)) {
            throw new IllegalArgumentException("only an item can be moved, and only to a block");
        }
        if (block > node && block < tree.after(node)) {
            throw new IllegalArgumentException("the block is in the item");
        }
        if (tree.nesting(block) + tree.innerNesting(node) > DEEPEST_NESTING) {
            throw new IllegalArgumentException("too many blocks and groups in one another");
        }
        int place = tree.placeFor(node, block, index);
        if (place == NONE) {
            throw new IllegalArgumentException("no such index in the block");
        }
        return tree.carry(node, block, place);
    }

    public int rename(int node, long bytes) throws IndexOutOfBoundsException, IllegalArgumentException {
        checkNode(node);
        unpack(bytes);
        if (!tree.is(node, WORD) || !isWord(unpacked)) {
            throw new IllegalArgumentException("only a word can be renamed, and only to a word");
        }
        tree.respell(node, unpacked);
        return unpacked.size();
    }

    public int write(boolean withColumns) {
        printer.startAgain();
        if (withColumns) {
            printer.printLines(0, 0);
        } else {
            printer.printItems();
        }
        return printer.size();
    }

    public int written(int index) throws IndexOutOfBoundsException {
        if (index < 0 || index >= printer.size()) {
            throw new IndexOutOfBoundsException("nothing is written there");
        }
        return printer.get(index);
    }

    public long digest() {
        long sum = 73;
        sum = mix(sum, text.size());
        sum = mix(sum, tree.size());
        for (int node = 0; node < tree.size(); node++) {
            sum = mix(sum, tree.get(node, Tree.KIND));
            sum = mix(sum, tree.countChildren(node));
            sum = mix(sum, tree.get(node, Tree.VALUE));
            int letters = tree.is(node, WORD) ? tree.get(node, Tree.VALUE) : 0;
            for (int i = 0; i < letters; i++) {
                sum = mix(sum, tree.letterOf(node, i));
            }
        }
        sum = mix(sum, repairs.size());
        return mix(sum, tree.countDifferentWords());
    }

    private static long mix(long sum, long number) {
        return sum * 31 + number;
    }

    private void checkNode(int node) {
        if (node < 0 || node >= tree.size()) {
            throw new IndexOutOfBoundsException("no such node");
        }
    }

    private void unpack(long bytes) {
        unpacked.cut(0);
        for (int shift = 8 * (PACKED_BYTES - 1); shift >= 0; shift -= 8) {
            int next = (int) (bytes >>> shift) & 255;
            if (next != 0) {
                unpacked.push(next);
            }
        }
    }

    private static boolean isTextByte(int b) {
        return b == LINE_END || (b >= ' ' && b <= '~');
    }

    private static boolean isLetter(int b) {
        return (b >= 'A' && b <= 'Z') || (b >= 'a' && b <= 'z');
    }

    private static boolean isDigit(int b) {
        return b >= '0' && b <= '9';
    }

    private static boolean isWord(Row bytes) {
        for (int i = 0; i < bytes.size(); i++) {
            boolean fits = isLetter(bytes.at(i)) || (i > 0 && isDigit(bytes.at(i)));
            if (!fits) {
                return false;
            }
        }
        return bytes.size() > 0;
    }

    /** Numbers in a row. It keeps its room when it is cut, so that repeated calls make nothing new. */
    private static final class Row {
        private static final int FIRST_ROOM = 64;
        private static final int MOST_ROOM = 1 << 20;

        private int[] cells = new int[FIRST_ROOM];
        private int count = 0;

        int size() {
            return count;
        }

        int at(int index) {
            return index >= 0 && index < count ? cells[index] : NONE;
        }

        void put(int index, int number) {
            if (index >= 0 && index < count) {
                cells[index] = number;
            }
        }

        void push(int number) {
            if (count >= MOST_ROOM) {
                return;
            }
            if (count >= cells.length) {
                cells = Arrays.copyOf(cells, 2 * count);
            }
            cells[count] = number;
            count++;
        }

        void cut(int size) {
            if (size >= 0 && size < count) {
                count = size;
            }
        }

        /** Lets the numbers from middle to end change places with those from start to middle. */
        void turn(int start, int middle, int end) {
            reverse(start, middle);
            reverse(middle, end);
            reverse(start, end);
        }

        private void reverse(int start, int end) {
            int right = end - 1;
            for (int left = start; left < right; left++) {
                int number = at(left);
                put(left, at(right));
                put(right, number);
                right--;
            }
        }
    }

    /** What was repaired, in the order of the text. */
    private static final class Repairs {
        private static final int WIDTH = 3;

        private final Row cells = new Row();
        private int count = 0;

        void startAgain() {
            cells.cut(0);
            count = 0;
        }

        int size() {
            return count;
        }

        int get(int index, int what) {
            return cells.at(index * WIDTH + what);
        }

        void add(int sort, int atLine, int atColumn) {
            cells.push(sort);
            cells.push(atLine);
            cells.push(atColumn);
            count++;
        }
    }

    /** Reads a text token by token, so that its stray bytes are repaired between the tokens' own repairs. */
    private static final class Lexer {
        private static final long MODULUS = 1000000000L;

        private final Row text;
        private final Repairs repairs;
        private int position = 0;
        private int lineNumber = 0;
        private int lineStart = 0;
        private boolean inComment = false;
        private boolean joinsNextLine = false;
        private boolean firstIsGone = false;

        private int token = NONE;
        private int start = 0;
        private int atLine = 0;
        private int atColumn = 0;
        private boolean isFirst = false;

        Lexer(Row text, Repairs repairs) {
            this.text = text;
            this.repairs = repairs;
        }

        void startAgain() {
            position = 0;
            lineNumber = 0;
            lineStart = 0;
            inComment = false;
            joinsNextLine = false;
            firstIsGone = false;
        }

        /** Answers false at the end of the text; line and column are then those of the end. */
        boolean readToken() {
            for (int i = position; i < text.size(); i++) {
                int b = text.at(i);
                if (b == LINE_END) {
                    beginLine(i + 1);
                } else if (b == '#') {
                    inComment = true;
                } else if (!inComment && startsToken(b)) {
                    takeToken(i, b);
                    return true;
                } else if (!inComment && b != ' ') {
                    takeOtherByte(i, b);
                }
            }
            position = text.size();
            token = NONE;
            atLine = lineNumber;
            atColumn = position - lineStart;
            return false;
        }

        private void beginLine(int at) {
            lineNumber++;
            lineStart = at;
            inComment = false;
            firstIsGone = joinsNextLine;
            joinsNextLine = false;
        }

        private void takeOtherByte(int at, int b) {
            if (b == '\\' && text.at(at + 1) == LINE_END) {
                joinsNextLine = true;
            } else {
                repairs.add(STRAY, lineNumber, at - lineStart);
            }
        }

        private static boolean startsToken(int b) {
            return isLetter(b) || isDigit(b) || b == '{' || b == '}' || b == '(' || b == ')' || b == ':' || b == ';';
        }

        private void takeToken(int at, int b) {
            start = at;
            atLine = lineNumber;
            atColumn = at - lineStart;
            isFirst = !firstIsGone;
            firstIsGone = true;
            token = isLetter(b) ? WORD : isDigit(b) ? NUMBER : b;
            position = at + 1;
            if (token == WORD || token == NUMBER) {
                position = endOfRun(at, token == WORD);
            }
        }

        private int endOfRun(int from, boolean withLetters) {
            int end = from;
            while (end < text.size() && (isDigit(text.at(end)) || (withLetters && isLetter(text.at(end))))) {
                end++;
            }
            return end;
        }

        int numberRead() {
            long number = 0;
            for (int i = start; i < position; i++) {
                number = (number * 10 + (text.at(i) - '0')) % MODULUS;
            }
            return (int) number;
        }
    }

    /**
     * The nodes in the order of their numbers, each with its level below the root. The children of a
     * node are the nodes one level deeper that follow it, up to the next node that is not deeper.
     * What is called from far up reads the cells itself, since calls may go only eight deep.
     */
    private static final class Tree {
        private static final int KIND = 0;
        private static final int LEVEL = 1;
        private static final int DEPTH = 2;
        private static final int AT_LINE = 3;
        private static final int AT_COLUMN = 4;
        private static final int VALUE = 5;
        private static final int SPELLED_AT = 6;
        private static final int WIDTH = 7;

        private final Row cells = new Row();
        private final Row letters = new Row();
        private int count = 0;

        void startAgain() {
            cells.cut(0);
            letters.cut(0);
            count = 0;
            add(NONE, BLOCK, 0, 0, 0);
        }

        int size() {
            return count;
        }

        int get(int node, int field) {
            return cells.at(node * WIDTH + field);
        }

        private void set(int node, int field, int number) {
            cells.put(node * WIDTH + field, number);
        }

        boolean is(int node, int sort) {
            return cells.at(node * WIDTH + KIND) == sort;
        }

        /** The holder must be the root, or lie on the way from the root to the last node. */
        int add(int holder, int sort, int atLine, int atColumn, int number) {
            boolean root = holder == NONE;
            cells.push(sort);
            cells.push(root ? 0 : get(holder, LEVEL) + 1);
            cells.push(root ? 0 : get(holder, DEPTH) + (is(holder, BLOCK) ? 1 : 0));
            cells.push(atLine);
            cells.push(atColumn);
            cells.push(number);
            cells.push(letters.size());
            count++;
            return count - 1;
        }

        /** Each word gets room for the longest new name, so that a renamed word stays where it is. */
        void spell(int node, Row bytes, int from, int end) {
            set(node, SPELLED_AT, letters.size());
            for (int i = from; i < end; i++) {
                letters.push(bytes.at(i));
            }
            for (int i = end - from; i < PACKED_BYTES; i++) {
                letters.push(0);
            }
            set(node, VALUE, end - from);
        }

        void respell(int node, Row bytes) {
            int from = get(node, SPELLED_AT);
            for (int i = 0; i < bytes.size(); i++) {
                letters.put(from + i, bytes.at(i));
            }
            set(node, VALUE, bytes.size());
        }

        int letterOf(int word, int index) {
            boolean inside = index >= 0 && index < cells.at(word * WIDTH + VALUE);
            return inside ? letters.at(cells.at(word * WIDTH + SPELLED_AT) + index) : NONE;
        }

        int holder(int node) {
            int level = get(node, LEVEL);
            for (int i = node - 1; i >= 0; i--) {
                if (get(i, LEVEL) < level) {
                    return i;
                }
            }
            return NONE;
        }

        /** The number of the first node behind all that is in a node. */
        int after(int node) {
            int level = cells.at(node * WIDTH + LEVEL);
            int end = node + 1;
            while (end < count && cells.at(end * WIDTH + LEVEL) > level) {
                end++;
            }
            return end;
        }

        int countChildren(int node) {
            int end = after(node);
            int level = get(node, LEVEL) + 1;
            int children = 0;
            for (int i = node + 1; i < end; i++) {
                if (get(i, LEVEL) == level) {
                    children++;
                }
            }
            return children;
        }

        int nthChild(int node, int index) {
            int end = after(node);
            int level = get(node, LEVEL) + 1;
            int seen = 0;
            for (int i = node + 1; i < end; i++) {
                if (get(i, LEVEL) == level) {
                    if (seen == index) {
                        return i;
                    }
                    seen++;
                }
            }
            return NONE;
        }

        int lastChild(int node) {
            int end = after(node);
            int level = get(node, LEVEL) + 1;
            for (int i = end - 1; i > node; i--) {
                if (get(i, LEVEL) == level) {
                    return i;
                }
            }
            return NONE;
        }

        int nthWord(Row bytes, int index) {
            int seen = 0;
            for (int node = 0; node < count; node++) {
                if (is(node, WORD) && isSpelled(node, bytes)) {
                    if (seen == index) {
                        return node;
                    }
                    seen++;
                }
            }
            return NONE;
        }

        private boolean isSpelled(int word, Row bytes) {
            if (get(word, VALUE) != bytes.size()) {
                return false;
            }
            for (int i = 0; i < bytes.size(); i++) {
                if (letterOf(word, i) != bytes.at(i)) {
                    return false;
                }
            }
            return true;
        }

        int countDifferentWords() {
            int different = 0;
            for (int node = 0; node < count; node++) {
                if (is(node, WORD) && isNewWord(node)) {
                    different++;
                }
            }
            return different;
        }

        private boolean isNewWord(int word) {
            for (int node = 0; node < word; node++) {
                if (is(node, WORD) && areSame(node, word)) {
                    return false;
                }
            }
            return true;
        }

        private boolean areSame(int word, int other) {
            int size = get(word, VALUE);
            if (size != get(other, VALUE)) {
                return false;
            }
            for (int i = 0; i < size; i++) {
                if (letterOf(word, i) != letterOf(other, i)) {
                    return false;
                }
            }
            return true;
        }

        /**
         * How many blocks and groups, without the root, a block or group closes around its inside. On the
         * way from the root to it there is one item for each block that it is in; the rest are these.
         */
        int nesting(int node) {
            return get(node, LEVEL) - get(node, DEPTH);
        }

        /** How many blocks and groups are in one another within an item. */
        int innerNesting(int item) {
            int end = after(item);
            int outside = get(item, DEPTH) - 1;
            int most = 0;
            for (int i = item + 1; i < end; i++) {
                if (is(i, BLOCK) || is(i, GROUP)) {
                    most = Math.max(most, nesting(i) - outside);
                }
            }
            return most;
        }

        void erase(int node) {
            int end = after(node);
            cells.turn(node * WIDTH, end * WIDTH, count * WIDTH);
            count -= end - node;
            cells.cut(count * WIDTH);
        }

        /** The number of the node before which an item would get an index among the others of a block. */
        int placeFor(int item, int block, int index) {
            int end = after(block);
            int level = get(block, LEVEL) + 1;
            int others = 0;
            for (int i = block + 1; i < end; i++) {
                if (i != item && get(i, LEVEL) == level) {
                    if (others == index) {
                        return i;
                    }
                    others++;
                }
            }
            return others == index ? end : NONE;
        }

        /** The block must not be in the item. Answers the item's new number. */
        int carry(int item, int block, int place) {
            int end = after(item);
            int deeper = get(block, LEVEL) + 1 - get(item, LEVEL);
            int moreBlocks = get(block, DEPTH) + 1 - get(item, DEPTH);
            for (int i = item; i < end; i++) {
                set(i, LEVEL, get(i, LEVEL) + deeper);
                set(i, DEPTH, get(i, DEPTH) + moreBlocks);
            }
            if (place <= item) {
                cells.turn(place * WIDTH, item * WIDTH, end * WIDTH);
                return place;
            }
            cells.turn(item * WIDTH, end * WIDTH, place * WIDTH);
            return place - (end - item);
        }
    }

    /** Makes the tree from the tokens, and repairs what does not fit. */
    private static final class Builder {
        private final Row text;
        private final Lexer lexer;
        private final Tree tree;
        private final Repairs repairs;
        private final Row openNodes = new Row();
        /** NONE for what has no column: a braced block, or a group. */
        private final Row openColumns = new Row();
        private final Row currentItems = new Row();
        private boolean hasBegun = false;
        private boolean colonBefore = false;

        Builder(Row text, Lexer lexer, Tree tree, Repairs repairs) {
            this.text = text;
            this.lexer = lexer;
            this.tree = tree;
            this.repairs = repairs;
        }

        void startAgain() {
            openNodes.cut(0);
            openColumns.cut(0);
            currentItems.cut(0);
            hasBegun = false;
            colonBefore = false;
            enter(0, 0);
        }

        void take() {
            boolean afterColon = colonBefore;
            colonBefore = false;
            if (!hasBegun) {
                hasBegun = true;
                openColumns.put(0, lexer.atColumn);
            }
            if (tree.is(openNodes.at(innermost()), GROUP)) {
                placeInGroup();
            } else if (afterColon && lexer.token == '{') {
                enter(addPart(BLOCK, 1), NONE);
            } else {
                if (afterColon && beginsBlock()) {
                    enter(addPart(BLOCK, 0), lexer.atColumn);
                } else {
                    if (afterColon) {
                        addPart(BLOCK, 0);
                    }
                    alignToColumn();
                }
                placeInBlock();
            }
        }

        void finish() {
            if (colonBefore) {
                addPart(BLOCK, 0);
            }
            for (int i = innermost(); i > 0; i--) {
                if (openColumns.at(i) == NONE) {
                    report(OPEN);
                }
            }
        }

        private int innermost() {
            return openNodes.size() - 1;
        }

        private void enter(int node, int ownColumn) {
            openNodes.push(node);
            openColumns.push(ownColumn);
            currentItems.push(NONE);
        }

        private void close(int index) {
            openNodes.cut(index);
            openColumns.cut(index);
            currentItems.cut(index);
        }

        private void endItem() {
            currentItems.put(innermost(), NONE);
        }

        private void report(int sort) {
            repairs.add(sort, lexer.atLine, lexer.atColumn);
        }

        private boolean isDeep() {
            return innermost() >= DEEPEST_NESTING;
        }

        private boolean beginsBlock() {
            boolean part = lexer.token == WORD || lexer.token == NUMBER || lexer.token == '(';
            return part && openColumns.at(innermost()) < lexer.atColumn;
        }

        private void alignToColumn() {
            if (!lexer.isFirst) {
                return;
            }
            int before = innermost();
            int top = before;
            while (top > 0 && openColumns.at(top) > lexer.atColumn) {
                top--;
            }
            close(top + 1);
            int own = openColumns.at(top);
            if (own == lexer.atColumn) {
                endItem();
            } else if (own > lexer.atColumn || (own != NONE && top < before)) {
                report(COLUMN);
                endItem();
            }
        }

        private void placeInGroup() {
            switch (lexer.token) {
                case WORD:
                    addWord();
                    break;
                case NUMBER:
                    addPart(NUMBER, lexer.numberRead());
                    break;
                case '(':
                    openGroup();
                    break;
                case ')':
                    close(innermost());
                    break;
                default:
                    report(STRAY);
                    break;
            }
        }

        private void placeInBlock() {
            switch (lexer.token) {
                case WORD:
                    addWord();
                    break;
                case NUMBER:
                    addPart(NUMBER, lexer.numberRead());
                    break;
                case '(':
                    openGroup();
                    break;
                case ';':
                    endItem();
                    break;
                case ':':
                    takeColon();
                    break;
                case '}':
                    closeBraces();
                    break;
                case '{':
                    report(ALONE);
                    break;
                default:
                    report(CLOSING);
                    break;
            }
        }

        private void addWord() {
            tree.spell(addPart(WORD, 0), text, lexer.start, lexer.position);
        }

        private void openGroup() {
            if (isDeep()) {
                report(DEEP);
            } else {
                enter(addPart(GROUP, 0), NONE);
            }
        }

        private void takeColon() {
            if (currentItems.at(innermost()) == NONE) {
                report(ALONE);
            } else if (isDeep()) {
                report(DEEP);
            } else {
                colonBefore = true;
            }
        }

        private void closeBraces() {
            int top = innermost();
            while (top > 0 && openColumns.at(top) != NONE) {
                top--;
            }
            if (top > 0) {
                close(top);
            } else {
                report(CLOSING);
            }
        }

        private int addPart(int sort, int number) {
            int top = innermost();
            int holder = openNodes.at(top);
            if (tree.is(holder, BLOCK)) {
                if (currentItems.at(top) == NONE) {
                    currentItems.put(top, tree.add(holder, ITEM, lexer.atLine, lexer.atColumn, 0));
                }
                holder = currentItems.at(top);
            }
            return tree.add(holder, sort, lexer.atLine, lexer.atColumn, number);
        }
    }

    /** Writes the tree, and keeps what it wrote when the tree is changed. */
    private static final class Printer {
        /** No tree nests as deep as this; it is here so that the recursion's end can be seen. */
        private static final int DEEPEST_CALL = 40;
        private static final int HIGHEST_UNIT = 100000000;

        private final Tree tree;
        private final Row out = new Row();

        Printer(Tree tree) {
            this.tree = tree;
        }

        int size() {
            return out.size();
        }

        int get(int index) {
            return out.at(index);
        }

        void startAgain() {
            out.cut(0);
        }

        /** Prints the root's items, each in a line, with all blocks in braces. */
        void printItems() {
            for (int i = 1; i < tree.size(); i++) {
                if (tree.get(i, Tree.LEVEL) == 1) {
                    printParts(i, tree.after(i), 0);
                    out.push(LINE_END);
                }
            }
        }

        /** Prints the items of a block, each with lines of its own, as deep in columns as in blocks. */
        private void printLines(int block, int calls) {
            if (calls > DEEPEST_CALL) {
                return;
            }
            int end = tree.after(block);
            int level = tree.get(block, Tree.LEVEL) + 1;
            for (int i = block + 1; i < end; i++) {
                if (tree.get(i, Tree.LEVEL) == level) {
                    printLinesOfItem(i, calls);
                }
            }
        }

        private void printLinesOfItem(int item, int calls) {
            for (int i = 0; i < calls; i++) {
                out.push(' ');
                out.push(' ');
            }
            int last = tree.lastChild(item);
            boolean endsInBlock = tree.is(last, BLOCK);
            printParts(item, endsInBlock ? last : tree.after(item), calls);
            if (endsInBlock) {
                out.push(':');
            }
            out.push(LINE_END);
            if (endsInBlock) {
                printLines(last, calls + 1);
            }
        }

        /** Prints those parts of an item or group that lie before a node. */
        private void printParts(int node, int end, int calls) {
            if (calls > DEEPEST_CALL) {
                return;
            }
            int level = tree.get(node, Tree.LEVEL) + 1;
            for (int i = node + 1; i < end; i++) {
                if (tree.get(i, Tree.LEVEL) == level) {
                    if (i > node + 1 && !tree.is(i, BLOCK)) {
                        out.push(' ');
                    }
                    printPart(i, calls);
                }
            }
        }

        private void printPart(int part, int calls) {
            switch (tree.get(part, Tree.KIND)) {
                case WORD:
                    printWord(part);
                    break;
                case NUMBER:
                    printNumber(tree.get(part, Tree.VALUE));
                    break;
                case GROUP:
                    out.push('(');
                    printParts(part, tree.after(part), calls + 1);
                    out.push(')');
                    break;
                default:
                    printBraces(part, calls + 1);
                    break;
            }
        }

        private void printBraces(int block, int calls) {
            out.push(':');
            out.push(' ');
            out.push('{');
            int end = tree.after(block);
            int level = tree.get(block, Tree.LEVEL) + 1;
            for (int i = block + 1; i < end; i++) {
                if (tree.get(i, Tree.LEVEL) == level) {
                    if (i > block + 1) {
                        out.push(';');
                    }
                    out.push(' ');
                    printParts(i, tree.after(i), calls);
                }
            }
            out.push(' ');
            out.push('}');
        }

        private void printWord(int word) {
            int size = tree.get(word, Tree.VALUE);
            for (int i = 0; i < size; i++) {
                out.push(tree.letterOf(word, i));
            }
        }

        private void printNumber(int number) {
            for (int unit = HIGHEST_UNIT; unit > 0; unit /= 10) {
                if (number >= unit || unit == 1) {
                    out.push('0' + number / unit % 10);
                }
            }
        }
    }
}
