import java.util.ArrayList;
import java.util.Arrays;

/** A tree of elements, texts, breaks and pieces, laid out into boxes and lines in whole points. */
public final class LineFlow {
    public static final int NONE = -1;

    private static final int REFUSED = -2;

    private static final int TAPE_LIMIT = 400;
    private static final int FEED_BYTES = 20;
    private static final int TEXT_LIMIT = 120;
    private static final int NODE_LIMIT = 60;
    private static final int DEPTH_LIMIT = 12;
    private static final int LEAST_ROOT_WIDTH = 20;
    private static final int MOST_ROOT_WIDTH = 400;

    // The kinds of a node.
    private static final int ELEMENT = 0;
    private static final int TEXT = 1;
    private static final int PIECE = 3;

    // What a node has.
    private static final int DISPLAY = 0;
    private static final int FLOAT = 1;
    private static final int WIDTH = 2;
    private static final int HEIGHT = 3;
    private static final int MARGIN = 4;
    private static final int BORDER = 5;
    private static final int PADDING = 6;
    private static final int ALIGN = 7;
    private static final int SIZE = 8;

    // The displays; a node's role in a laying is one of these too.
    private static final int BLOCK = 0;
    private static final int INLINE = 1;
    private static final int FLEX = 2;
    private static final int GONE = 3;

    private static final int FLOAT_LEFT = 1;
    private static final int FLOAT_RIGHT = 2;
    private static final int ALIGN_HALF = 1;
    private static final int ALIGN_ALL = 2;

    private static final int LENGTH_LIMIT = 400;
    private static final int SHARE = 1000;
    private static final int WHOLE_SHARE = 100;
    private static final int SPACE_LIMIT = 50;
    private static final int BORDER_LIMIT = 9;
    private static final int SIZE_LIMIT = 4;

    private static final int PIECE_LENGTH = 8;
    private static final int LINE_HEIGHT = 7;
    private static final int BLANK_WIDTH = 3;

    private static final byte[] NO_BYTES = {};

    private final byte[] tape = new byte[TAPE_LIMIT];
    private int taped;
    private final Node[] nodes = new Node[NODE_LIMIT];
    private int nodeCount;
    private final Layout layout = new Layout();

    public LineFlow() {
        plantRoot();
    }

    public int feed(int a, int b, int c, int d, int e) {
        if (taped + FEED_BYTES > TAPE_LIMIT) {
            return NONE;
        }
        putOnTape(a);
        putOnTape(b);
        putOnTape(c);
        putOnTape(d);
        putOnTape(e);
        return taped;
    }

    public int end(int n) {
        if (n < 0 || n > taped) {
            return NONE;
        }
        taped = n;
        return n;
    }

    public void clear() {
        plantRoot();
        layout.forgetWords();
    }

    public int node(int parent, int kind) {
        Node holder = elementAt(parent);
        if (holder == null || kind < ELEMENT || kind > PIECE) {
            return NONE;
        }
        if (nodeCount >= nodes.length || holder.depth >= DEPTH_LIMIT) {
            return NONE;
        }
        int number = nodeCount;
        nodes[number] = new Node(number, kind, holder);
        holder.append(nodes[number]);
        nodeCount++;
        return number;
    }

    public int text(int n) {
        Node node = nodeAt(n);
        if (node == null || node.kind != TEXT || taped > TEXT_LIMIT) {
            return NONE;
        }
        node.bytes = Arrays.copyOf(tape, taped);
        taped = 0;
        return node.bytes.length;
    }

    public int set(int n, int what, int v) {
        Node node = nodeAt(n);
        if (node == null || !mayHave(node, what, v) || what < 0 || what >= node.has.length) {
            return REFUSED;
        }
        int was = node.has[what];
        node.has[what] = v;
        return was;
    }

    public int lay(int w) {
        Node root = nodeAt(0);
        if (root == null || w < LEAST_ROOT_WIDTH || w > MOST_ROOT_WIDTH) {
            return NONE;
        }
        layout.layRoot(root, w);
        return root.box.height;
    }

    public int box(int n, int what) {
        Node node = nodeAt(n);
        if (node == null || !node.boxed) {
            return NONE;
        }
        switch (what) {
            case 0: return node.box.x;
            case 1: return node.box.y;
            case 2: return node.box.width;
            case 3: return node.box.height;
            default: return NONE;
        }
    }

    public int words() {
        return layout.wordCount;
    }

    public int word(int i, int what) {
        Word found = layout.wordAt(i);
        if (found == null) {
            return NONE;
        }
        switch (what) {
            case 0: return found.textNumber;
            case 1: return found.box.x;
            case 2: return found.box.y;
            case 3: return found.box.width;
            case 4: return found.box.height;
            case 5: return found.firstByte;
            case 6: return found.byteCount;
            default: return NONE;
        }
    }

    public int line(int n) {
        Node element = elementAt(n);
        return element == null ? NONE : layout.ruler.oneLine(element);
    }

    public int margin(int n, boolean below) {
        Node element = elementAt(n);
        if (element == null || element.parent == null || !Margins.isBlock(element)) {
            return NONE;
        }
        return Margins.outer(element, below);
    }

    private void plantRoot() {
        for (int i = 0; i < nodes.length; i++) {
            nodes[i] = null;
        }
        nodes[0] = new Node(0, ELEMENT, null);
        nodeCount = 1;
    }

    private void putOnTape(int four) {
        for (int shift = 24; shift >= 0 && taped < tape.length; shift -= 8) {
            tape[taped] = (byte) (four >>> shift);
            taped++;
        }
    }

    private Node nodeAt(int n) {
        return n >= 0 && n < nodeCount && n < nodes.length ? nodes[n] : null;
    }

    private Node elementAt(int n) {
        Node node = nodeAt(n);
        return node != null && node.kind == ELEMENT ? node : null;
    }

    private static boolean mayHave(Node node, int what, int v) {
        switch (what) {
            case DISPLAY: return mayDisplay(node, v);
            case FLOAT: return v == 0 || mayFloat(node) && within(v, FLOAT_LEFT, FLOAT_RIGHT);
            case WIDTH: return within(v, NONE, LENGTH_LIMIT) || within(v, SHARE, SHARE + WHOLE_SHARE);
            case HEIGHT: return within(v, NONE, LENGTH_LIMIT);
            case MARGIN: return within(v, 0, SPACE_LIMIT);
            case BORDER: return within(v, 0, BORDER_LIMIT);
            case PADDING: return within(v, 0, SPACE_LIMIT);
            case ALIGN: return within(v, 0, ALIGN_ALL);
            case SIZE: return within(v, 1, SIZE_LIMIT);
            default: return false;
        }
    }

    private static boolean mayDisplay(Node node, int v) {
        if (node.kind == PIECE) {
            return v == INLINE || v == GONE;
        }
        if (node.kind != ELEMENT) {
            return v == INLINE;
        }
        if (node.parent == null) {
            return v == BLOCK || v == FLEX;
        }
        return within(v, BLOCK, GONE);
    }

    private static boolean mayFloat(Node node) {
        return node.kind == ELEMENT && node.parent != null;
    }

    private static boolean within(int v, int least, int most) {
        return v >= least && v <= most;
    }

    /** A rectangle; one that is an item of a line knows the item behind it there. */
    private static final class Box {
        int x;
        int y;
        int width;
        int height;
        Box nextOnLine;
    }

    private static final class Word {
        int textNumber;
        int firstByte;
        int byteCount;
        final Box box = new Box();
    }

    private static final class Node {
        final int number;
        final int kind;
        final Node parent;
        final int depth;
        final int[] has = {BLOCK, 0, NONE, NONE, 0, 0, 0, 0, 1};
        Node firstChild;
        Node lastChild;
        Node next;
        byte[] bytes = NO_BYTES;

        // What the latest laying made of it.
        int role = GONE;
        boolean floating;
        boolean boxed;
        final Box box = new Box();
        int firstWord;
        int wordCount;
        Node nextFloat;

        Node(int number, int kind, Node parent) {
            this.number = number;
            this.kind = kind;
            this.parent = parent;
            this.depth = parent == null ? 0 : parent.depth + 1;
            this.has[DISPLAY] = kind == ELEMENT ? BLOCK : INLINE;
        }

        void append(Node child) {
            if (lastChild == null) {
                firstChild = child;
            } else {
                lastChild.next = child;
            }
            lastChild = child;
        }

        /** Border and padding on one side. */
        int frame() {
            return has[BORDER] + has[PADDING];
        }

        /** The width told, with a share taken of what is given; or that for none told. */
        int toldWidth(int innerWidth, int untold) {
            int told = has[WIDTH];
            if (told == NONE) {
                return untold;
            }
            return told < SHARE ? told : innerWidth * (told - SHARE) / WHOLE_SHARE;
        }

        int framedWidth(int innerWidth, int untold) {
            return Math.max(toldWidth(innerWidth, untold), 2 * frame());
        }

        int framedHeight(int inside) {
            int told = has[HEIGHT];
            return told == NONE ? inside + 2 * frame() : Math.max(told, 2 * frame());
        }
    }

    /** How the margins of blocks join, by the tree as it is now. */
    private static final class Margins {
        /** TOP of a block, or BOTTOM; the tree's limit of depth bounds the recursion. */
        static int outer(Node block, boolean below) {
            Node joined = joinedThing(block, below);
            int own = block.has[MARGIN];
            return joined == null ? own : Math.max(own, outer(joined, below));
        }

        /** The first or last thing in a block, if its margin there joins the block's; else null. */
        static Node joinedThing(Node block, boolean below) {
            if (!isOpen(block) || below && block.has[HEIGHT] != NONE) {
                return null;
            }
            Node thing = below ? lastThing(block) : firstThing(block);
            return thing != null && isBlock(thing) ? thing : null;
        }

        static boolean isBlock(Node node) {
            int display = node.has[DISPLAY];
            return node.kind == ELEMENT && node.has[FLOAT] == 0 && (display == BLOCK || display == FLEX);
        }

        /** Whether nothing of the block itself keeps margins within it from joining its own. */
        private static boolean isOpen(Node block) {
            return isBlock(block) && block.has[DISPLAY] == BLOCK && block.frame() == 0
                    && block.parent != null && block.parent.has[DISPLAY] == BLOCK;
        }

        private static Node firstThing(Node block) {
            for (Node child = block.firstChild; child != null; child = child.next) {
                if (child.has[DISPLAY] != GONE) {
                    return child;
                }
            }
            return null;
        }

        private static Node lastThing(Node block) {
            Node last = null;
            for (Node child = block.firstChild; child != null; child = child.next) {
                if (child.has[DISPLAY] != GONE) {
                    last = child;
                }
            }
            return last;
        }
    }

    /** Measures bytes, and the text of an element in one line. */
    private static final class Ruler {
        private int sum;
        private boolean blanksAhead;

        static boolean isBlank(byte b) {
            return b == 10 || b == 32;
        }

        static int glyphWidth(byte b) {
            switch (b) {
                case 'i': case 'l': case 'j': case '.': case ',':
                case '\'': case ':': case ';': case '!': case '|':
                    return 2;
                case 'm': case 'w': case 'M': case 'W': case '@':
                    return 5;
                default:
                    return 4;
            }
        }

        int oneLine(Node element) {
            sum = 0;
            blanksAhead = false;
            addTexts(element);
            return sum * element.has[SIZE];
        }

        private void addTexts(Node element) {
            for (Node child = element.firstChild; child != null; child = child.next) {
                addBytes(child.bytes);
                addTexts(child);
            }
        }

        private void addBytes(byte[] bytes) {
            for (byte b : bytes) {
                if (isBlank(b)) {
                    // None counts at the begin: there is no glyph yet that it would part.
                    blanksAhead = sum > 0;
                } else {
                    sum += glyphWidth(b) + (blanksAhead ? BLANK_WIDTH : 0);
                    blanksAhead = false;
                }
            }
        }
    }

    /** The floats of one block that have been put, and the edges that they leave for lines. */
    private static final class Floats {
        private int innerLeft;
        private int innerRight;
        private Node first;
        private Node last;
        int lowestTop;
        int lowestEnd;

        void begin(int left, int right, int y) {
            innerLeft = left;
            innerRight = right;
            first = null;
            last = null;
            lowestTop = y;
            lowestEnd = y;
        }

        void add(Node added) {
            added.nextFloat = null;
            if (last == null) {
                first = added;
            } else {
                last.nextFloat = added;
            }
            last = added;
            lowestTop = Math.max(lowestTop, topOf(added));
            lowestEnd = Math.max(lowestEnd, endOf(added));
        }

        int leftAt(int y) {
            int left = innerLeft;
            for (Node f = first; f != null; f = f.nextFloat) {
                if (f.has[FLOAT] == FLOAT_LEFT && isAt(f, y)) {
                    left = Math.max(left, f.box.x + f.box.width + f.has[MARGIN]);
                }
            }
            return left;
        }

        int rightAt(int y) {
            int right = innerRight;
            for (Node f = first; f != null; f = f.nextFloat) {
                if (f.has[FLOAT] == FLOAT_RIGHT && isAt(f, y)) {
                    right = Math.min(right, f.box.x - f.has[MARGIN]);
                }
            }
            return right;
        }

        /** The first y, from this one on, where something so wide goes between the floats, or none is left. */
        int roomFor(int width, int y) {
            int at = y;
            // Every step leaves one float behind at least.
            for (int step = 0; step < NODE_LIMIT; step++) {
                int end = leastEndAt(at);
                if (end == at || width <= rightAt(at) - leftAt(at)) {
                    return at;
                }
                at = end;
            }
            return at;
        }

        /** The least end of the floats at a y; that y itself, if there are none. */
        private int leastEndAt(int y) {
            int least = y;
            for (Node f = first; f != null; f = f.nextFloat) {
                if (isAt(f, y) && (least == y || endOf(f) < least)) {
                    least = endOf(f);
                }
            }
            return least;
        }

        private static boolean isAt(Node f, int y) {
            return y >= topOf(f) && y < endOf(f);
        }

        private static int topOf(Node f) {
            return f.box.y - f.has[MARGIN];
        }

        private static int endOf(Node f) {
            return f.box.y + f.box.height + f.has[MARGIN];
        }
    }

    /** The line that is being filled. */
    private static final class Line {
        private Box first;
        private Box last;
        private int right;
        private int reached;
        private int height;

        boolean isEmpty() {
            return first == null;
        }

        void drop() {
            first = null;
            last = null;
            height = 0;
        }

        void open(int leftEdge, int rightEdge) {
            reached = leftEdge;
            right = rightEdge;
        }

        boolean takes(int width) {
            return width <= right - reached;
        }

        void add(Box item, int gap) {
            item.nextOnLine = null;
            if (last == null) {
                first = item;
            } else {
                last.nextOnLine = item;
            }
            last = item;
            item.x = reached + gap;
            reached = item.x + item.width;
            height = Math.max(height, item.height);
        }

        /** Puts the items where they stay, and tells how high the line is. */
        int settle(int y, int align) {
            int ahead = spaceAhead(align);
            for (Box item = first; item != null; item = item.nextOnLine) {
                item.x += ahead;
                item.y = y + height - item.height;
            }
            return height;
        }

        private int spaceAhead(int align) {
            // An item wider than the line leaves nothing.
            int rest = Math.max(0, right - reached);
            if (align == ALIGN_HALF) {
                return rest / 2;
            }
            return align == ALIGN_ALL ? rest : 0;
        }
    }

    /** How far the laying of one block has come. */
    private static final class Flow {
        Node block;
        int innerX;
        int innerY;
        int innerWidth;
        int y;
        /** BOTTOM of the block that ends at y, if one does and what comes next has not counted it. */
        int below;
        boolean blanksAhead;
        Node firstWaiting;
        Node lastWaiting;
        final Floats floats = new Floats();
        final Line line = new Line();

        void begin(Node node) {
            block = node;
            innerX = node.box.x + node.frame();
            innerY = node.box.y + node.frame();
            innerWidth = Math.max(0, node.box.width - 2 * node.frame());
            y = innerY;
            below = 0;
            blanksAhead = false;
            firstWaiting = null;
            lastWaiting = null;
            floats.begin(innerX, innerX + innerWidth, innerY);
            line.drop();
        }

        void beginLines() {
            y += below;
            below = 0;
        }

        void await(Node waiting) {
            waiting.nextFloat = null;
            if (lastWaiting == null) {
                firstWaiting = waiting;
            } else {
                lastWaiting.nextFloat = waiting;
            }
            lastWaiting = waiting;
        }

        /** The floats that wait, as a chain; none wait any more then. */
        Node releaseWaiting() {
            Node released = firstWaiting;
            firstWaiting = null;
            lastWaiting = null;
            return released;
        }

        int contentHeight() {
            return Math.max(y + below, floats.lowestEnd) - innerY;
        }
    }

    /** Lays a tree: gives its nodes their boxes, and lists its words. */
    private static final class Layout {
        private final ArrayList<Word> wordPool = new ArrayList<>();
        private int wordCount;
        // One for each depth: blocks at the same depth are never laid at the same time.
        private final Flow[] flows = new Flow[DEPTH_LIMIT + 1];
        private final Ruler ruler = new Ruler();

        Layout() {
            for (int i = 0; i < flows.length; i++) {
                flows[i] = new Flow();
            }
        }

        void forgetWords() {
            wordCount = 0;
        }

        Word wordAt(int i) {
            return i >= 0 && i < wordCount && i < wordPool.size() ? wordPool.get(i) : null;
        }

        void layRoot(Node root, int width) {
            wordCount = 0;
            prepare(root, root.has[DISPLAY]);
            layElement(root, 0, 0, width);
        }

        /** Gives all in a node its role, and lists the words: here, for floats are laid out of the tree's order. */
        private void prepare(Node node, int role) {
            node.role = role;
            node.boxed = false;
            node.firstWord = wordCount;
            if (node.kind == TEXT && role != GONE) {
                listWords(node);
            }
            node.wordCount = wordCount - node.firstWord;
            for (Node child = node.firstChild; child != null; child = child.next) {
                int childRole = roleWithin(child, role);
                child.floating = role == BLOCK && childRole != GONE && child.has[FLOAT] != 0;
                prepare(child, childRole);
            }
        }

        private static int roleWithin(Node node, int parentRole) {
            int display = node.has[DISPLAY];
            if (parentRole == GONE || display == GONE) {
                return GONE;
            }
            if (node.kind != ELEMENT) {
                return parentRole == FLEX && node.kind != PIECE ? GONE : INLINE;
            }
            if (parentRole == INLINE) {
                return INLINE;
            }
            if (display == INLINE) {
                // Floats, and what stands in a row, are laid like blocks.
                return parentRole == FLEX || node.has[FLOAT] != 0 ? BLOCK : INLINE;
            }
            return display;
        }

        private void listWords(Node text) {
            int start = 0;
            int width = 0;
            for (int i = 0; i < text.bytes.length; i++) {
                if (!Ruler.isBlank(text.bytes[i])) {
                    width += Ruler.glyphWidth(text.bytes[i]);
                    continue;
                }
                listWord(text, start, i, width);
                start = i + 1;
                width = 0;
            }
            listWord(text, start, text.bytes.length, width);
        }

        private void listWord(Node text, int start, int end, int width) {
            if (start >= end) {
                return;
            }
            if (wordCount == wordPool.size()) {
                wordPool.add(new Word());
            }
            wordCount++;
            Word word = wordAt(wordCount - 1);
            if (word == null) {
                return;
            }
            word.textNumber = text.number;
            word.firstByte = start;
            word.byteCount = end - start;
            word.box.width = width * text.has[SIZE];
            word.box.height = LINE_HEIGHT * text.has[SIZE];
        }

        private void layElement(Node node, int x, int y, int width) {
            node.boxed = true;
            node.box.x = x;
            node.box.y = y;
            node.box.width = width;
            if (node.depth < 0 || node.depth >= flows.length) {
                return;
            }
            Flow flow = flows[node.depth];
            flow.begin(node);
            int inside = node.role == FLEX ? layRow(flow) : layDown(flow);
            node.box.height = node.framedHeight(inside);
        }

        /** Lays what is in a flex side by side, and tells how high it is. */
        private int layRow(Flow flow) {
            int x = flow.innerX;
            int highest = 0;
            for (Node child = flow.block.firstChild; child != null; child = child.next) {
                if (child.role == GONE) {
                    continue;
                }
                int margin = child.has[MARGIN];
                if (child.kind == PIECE) {
                    measurePiece(child, flow.innerWidth);
                    child.box.x = x + margin;
                    child.box.y = flow.innerY + margin;
                } else {
                    int width = child.framedWidth(flow.innerWidth, textWidth(child));
                    layElement(child, x + margin, flow.innerY + margin, width);
                }
                x += child.box.width + 2 * margin;
                highest = Math.max(highest, child.box.height + 2 * margin);
            }
            return highest;
        }

        /** Lays what is in a block from its top down, and tells how high it is. */
        private int layDown(Flow flow) {
            Node block = flow.block;
            for (Node thing = block.firstChild; thing != null; thing = following(thing, block)) {
                if (thing.role == GONE) {
                    continue;
                }
                if (thing.floating) {
                    addFloat(flow, thing);
                } else if (thing.role == INLINE) {
                    addInline(flow, thing);
                } else {
                    addBlock(flow, thing);
                }
            }
            endLine(flow);
            if (Margins.joinedThing(block, true) != null) {
                flow.below = 0;
            }
            return flow.contentHeight();
        }

        /** What comes behind a thing in a block, with all that inline elements hold; null at the end. */
        private static Node following(Node thing, Node block) {
            if (thing.role == INLINE && thing.firstChild != null) {
                return thing.firstChild;
            }
            for (Node at = thing; at != null && at != block; at = at.parent) {
                if (at.next != null) {
                    return at.next;
                }
            }
            return null;
        }

        private void addBlock(Flow flow, Node thing) {
            endLine(flow);
            boolean joined = Margins.joinedThing(flow.block, false) == thing;
            int top = joined ? 0 : Margins.outer(thing, false);
            int y = Math.max(flow.y + Math.max(flow.below, top), flow.floats.lowestEnd);
            int margin = thing.has[MARGIN];
            int width = thing.framedWidth(flow.innerWidth, flow.innerWidth - 2 * margin);
            layElement(thing, flow.innerX + margin, y, width);
            flow.y = y + thing.box.height;
            flow.below = Margins.outer(thing, true);
        }

        private void addFloat(Flow flow, Node thing) {
            flow.beginLines();
            if (flow.line.isEmpty()) {
                putFloat(flow, thing);
            } else {
                flow.await(thing);
            }
        }

        private void putFloat(Flow flow, Node thing) {
            int margin = thing.has[MARGIN];
            int untold = Math.min(textWidth(thing), flow.innerWidth - 2 * margin);
            int width = thing.framedWidth(flow.innerWidth, untold);
            Floats floats = flow.floats;
            int y = floats.roomFor(width + 2 * margin, Math.max(flow.y, floats.lowestTop));
            int x = thing.has[FLOAT] == FLOAT_LEFT ? floats.leftAt(y) + margin : floats.rightAt(y) - margin - width;
            layElement(thing, x, y + margin, width);
            floats.add(thing);
        }

        private int textWidth(Node element) {
            return ruler.oneLine(element) + 2 * element.frame();
        }

        private void addInline(Flow flow, Node thing) {
            flow.beginLines();
            if (thing.kind == TEXT) {
                addWords(flow, thing);
            } else if (thing.kind == PIECE) {
                measurePiece(thing, flow.innerWidth);
                addItem(flow, thing.box, thing.has[SIZE]);
            } else if (thing.kind != ELEMENT) {
                addBreak(flow, thing);
            }
        }

        private void measurePiece(Node piece, int innerWidth) {
            int told = piece.has[HEIGHT];
            piece.boxed = true;
            piece.box.width = piece.toldWidth(innerWidth, PIECE_LENGTH);
            piece.box.height = told == NONE ? PIECE_LENGTH : told;
        }

        private void addWords(Flow flow, Node text) {
            for (int i = 0; i < text.wordCount; i++) {
                Word word = wordAt(text.firstWord + i);
                if (word == null) {
                    return;
                }
                // What is ahead of a word in its text is always a blank.
                flow.blanksAhead = flow.blanksAhead || word.firstByte > 0;
                addItem(flow, word.box, text.has[SIZE]);
            }
            int count = text.bytes.length;
            if (count > 0 && Ruler.isBlank(text.bytes[count - 1])) {
                flow.blanksAhead = true;
            }
        }

        private void addBreak(Flow flow, Node thing) {
            if (flow.line.isEmpty()) {
                flow.y += LINE_HEIGHT * thing.has[SIZE];
            } else {
                endLine(flow);
            }
        }

        private void addItem(Flow flow, Box item, int size) {
            int gap = flow.blanksAhead ? BLANK_WIDTH * size : 0;
            flow.blanksAhead = false;
            if (!flow.line.isEmpty() && flow.line.takes(gap + item.width)) {
                flow.line.add(item, gap);
                return;
            }
            endLine(flow);
            flow.y = flow.floats.roomFor(item.width, flow.y);
            flow.line.open(flow.floats.leftAt(flow.y), flow.floats.rightAt(flow.y));
            flow.line.add(item, 0);
        }

        /** Ends the line, if anything is on it; then the floats that waited for that are put. */
        private void endLine(Flow flow) {
            if (flow.line.isEmpty()) {
                return;
            }
            flow.y += flow.line.settle(flow.y, flow.block.has[ALIGN]);
            flow.line.drop();
            Node waiting = flow.releaseWaiting();
            while (waiting != null) {
                Node next = waiting.nextFloat;
                putFloat(flow, waiting);
                waiting = next;
            }
        }
    }
}
