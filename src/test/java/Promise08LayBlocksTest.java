/** Promise 8: lay; blocks one below the other, their widths and heights. */
public final class Promise08LayBlocksTest {
    private static final int NONE = LineFlow.NONE;

    private static void widthOfRoot() {
        Check.sentence("THE ROOT w wide (20 .. 400): how high it is; NONE for another w");
        LineFlow flow = new LineFlow();
        Check.element(flow, 0, Check.HEIGHT, 5);
        for (int w : new int[] {Integer.MIN_VALUE, -1, 0, 1, 19, 401, 1000, 1050, Integer.MAX_VALUE}) {
            Check.due("lay(" + w + ")", flow.lay(w), NONE);
            Check.dueNoBox("lay(" + w + ")", flow, 0);
            Check.dueNoBox("lay(" + w + ")", flow, 1);
        }
        Check.due("lay(20)", flow.lay(20), 5);
        Check.dueBox("lay(20)", flow, 1, 0, 0, 20, 5);
        Check.due("lay(400)", flow.lay(400), 5);
        Check.dueBox("lay(400)", flow, 1, 0, 0, 400, 5);
    }

    private static void refused() {
        Check.sentence("NONE for another w: nothing is laid by it");
        LineFlow flow = new LineFlow();
        int text = Check.text(flow, 0, "ab");
        flow.lay(30);
        Check.tape(flow, "m m");
        flow.text(text);
        Check.due("lay(19)", flow.lay(19), NONE);
        Check.due("lay(401)", flow.lay(401), NONE);
        Check.dueBox("as laid latest", flow, 0, 0, 0, 30, 7);
        Check.dueWidths("as laid latest", flow, 8);
    }

    private static void rootBox() {
        Check.sentence("THE ROOT's BOX begins at 0, 0, as wide as told");
        LineFlow flow = new LineFlow();
        Check.having(flow, 0, Check.WIDTH, 33, Check.MARGIN, 50, Check.ALIGN, 2);
        Check.due("lay(60)", flow.lay(60), 0);
        Check.dueBox("without its width and margin", flow, 0, 0, 0, 60, 0);
        Check.having(flow, 0, Check.BORDER, 9, Check.PADDING, 50);
        Check.due("lay(20)", flow.lay(20), 118);
        Check.dueBox("its frame is wider", flow, 0, 0, 0, 20, 118);
    }

    private static void innerWidth() {
        Check.sentence("its INNER rectangle is without these (0 wide at least)");
        LineFlow flow = new LineFlow();
        int block = Check.element(flow, 0);
        int right = Check.floating(flow, 0, 2, 4, 3, 0);
        int piece = Check.piece(flow, 0, Check.WIDTH, 1100);
        int[][] due = {{9, 2}, {10, 0}, {11, 0}, {50, 0}};
        for (int[] d : due) {
            flow.set(0, Check.PADDING, d[0]);
            flow.lay(20);
            Check.dueBox("padding " + d[0], flow, block, d[0], d[0], d[1], 0);
            Check.due("its right edge, padding " + d[0], flow.box(right, 0), d[0] + d[1] - 4);
            Check.due("a share of it, padding " + d[0], flow.box(piece, 2), d[1]);
        }
    }

    private static void toldWidth() {
        Check.sentence("WIDTH of a BLOCK: that told");
        LineFlow flow = new LineFlow();
        int block = Check.element(flow, 0);
        for (int w : new int[] {0, 1, 19, 20, 21, 400}) {
            flow.set(block, Check.WIDTH, w);
            flow.lay(20);
            Check.dueBox("told " + w, flow, block, 0, 0, w, 0);
        }
    }

    private static void share() {
        Check.sentence("a share of the INNER width of what it lies in, down");
        LineFlow flow = new LineFlow();
        Check.having(flow, 0, Check.BORDER, 1, Check.PADDING, 2);
        int block = Check.element(flow, 0, Check.MARGIN, 7);
        int[][] due = {{1000, 0}, {1001, 0}, {1002, 1}, {1033, 16}, {1099, 49}, {1100, 50}};
        for (int[] d : due) {
            flow.set(block, Check.WIDTH, d[0]);
            flow.lay(56);
            Check.due("width " + d[0], flow.box(block, 2), d[1]);
        }
        int within = Check.element(flow, block, Check.WIDTH, 1050);
        Check.having(flow, block, Check.WIDTH, 90, Check.PADDING, 3);
        flow.lay(56);
        Check.due("of what is wider than the root", flow.box(within, 2), 42);
    }

    private static void untold() {
        Check.sentence("else that INNER width without its margins");
        LineFlow flow = new LineFlow();
        flow.set(0, Check.PADDING, 5);
        int block = Check.element(flow, 0);
        int[][] due = {{0, 50}, {1, 48}, {24, 2}, {25, 0}, {26, 0}, {50, 0}};
        for (int[] d : due) {
            flow.set(block, Check.MARGIN, d[0]);
            flow.lay(60);
            Check.dueBox("margin " + d[0], flow, block, 5 + d[0], 5 + d[0], d[1], 0);
        }
    }

    private static void leastWidth() {
        Check.sentence("at least its border and padding on both sides");
        LineFlow flow = new LineFlow();
        int block = Check.element(flow, 0, Check.BORDER, 2, Check.PADDING, 3);
        int[][] due = {{0, 10}, {9, 10}, {10, 10}, {11, 11}, {1000, 10}, {1024, 10}, {1027, 10}, {1028, 11}};
        for (int[] d : due) {
            flow.set(block, Check.WIDTH, d[0]);
            flow.lay(40);
            Check.dueBox("width " + d[0], flow, block, 0, 0, d[1], 10);
        }
        flow.set(block, Check.WIDTH, NONE);
        flow.set(block, Check.MARGIN, 15);
        flow.lay(40);
        Check.due("just so much", flow.box(block, 2), 10);
        flow.set(block, Check.MARGIN, 16);
        flow.lay(40);
        Check.due("its margins leave less", flow.box(block, 2), 10);
    }

    private static void x() {
        Check.sentence("Its x: that INNER x and its margin");
        LineFlow flow = new LineFlow();
        Check.having(flow, 0, Check.BORDER, 9, Check.PADDING, 50);
        int block = Check.element(flow, 0, Check.MARGIN, 50, Check.BORDER, 1, Check.WIDTH, 30);
        int within = Check.element(flow, block, Check.MARGIN, 2);
        flow.lay(20);
        Check.due("x", flow.box(block, 0), 109);
        Check.due("x within", flow.box(within, 0), 112);
        Check.due("width within", flow.box(within, 2), 24);
    }

    private static void toldIsTheBox() {
        Check.sentence("A WIDTH told is that of the BOX; so is a HEIGHT");
        LineFlow flow = new LineFlow();
        int block = Check.element(flow, 0, Check.WIDTH, 20, Check.HEIGHT, 21, Check.BORDER, 1, Check.PADDING, 2);
        int within = Check.element(flow, block);
        Check.due("height", flow.lay(40), 21);
        Check.dueBox("box", flow, block, 0, 0, 20, 21);
        Check.dueBox("within", flow, within, 3, 3, 14, 0);
    }

    private static void firstBlock() {
        Check.sentence("y begins at the INNER y. A BLOCK stands at y and its TOP");
        LineFlow flow = new LineFlow();
        int block = Check.element(flow, 0, Check.MARGIN, 6, Check.HEIGHT, 1);
        Check.due("height", flow.lay(40), 13);
        Check.due("y", flow.box(block, 1), 6);
        flow.set(0, Check.PADDING, 4);
        Check.due("height with padding", flow.lay(40), 21);
        Check.due("y with padding", flow.box(block, 1), 10);
    }

    private static void behindBlock() {
        Check.sentence("behind a BLOCK, at that one's end and the greater one of its BOTTOM and this TOP");
        int[][] due = {{0, 0, 0}, {4, 4, 4}, {6, 4, 6}, {4, 6, 6}, {0, 50, 50}, {50, 0, 50}};
        for (int[] d : due) {
            LineFlow flow = new LineFlow();
            int above = Check.element(flow, 0, Check.MARGIN, d[0], Check.HEIGHT, 3);
            int below = Check.element(flow, 0, Check.MARGIN, d[1], Check.HEIGHT, 2);
            Check.due("height " + d[0] + ", " + d[1], flow.lay(40), d[0] + 3 + d[2] + 2 + d[1]);
            Check.due("above", flow.box(above, 1), d[0]);
            Check.due("below", flow.box(below, 1), d[0] + 3 + d[2]);
        }
    }

    private static void emptyBlock() {
        Check.sentence("y is its BOX's end then: of a BLOCK of no height, too");
        LineFlow flow = new LineFlow();
        Check.element(flow, 0, Check.MARGIN, 3, Check.HEIGHT, 1);
        int empty = Check.element(flow, 0, Check.MARGIN, 2);
        int last = Check.element(flow, 0, Check.MARGIN, 5, Check.HEIGHT, 1);
        Check.due("height", flow.lay(40), 3 + 1 + 3 + 0 + 5 + 1 + 5);
        Check.dueBox("empty", flow, empty, 2, 7, 36, 0);
        Check.due("behind it", flow.box(last, 1), 12);
    }

    private static void linesBehindBlock() {
        Check.sentence("LINES begin at y, behind a BLOCK at its end and its BOTTOM, and y is their end then");
        LineFlow flow = new LineFlow();
        Check.text(flow, 0, "a");
        int first = Check.element(flow, 0, Check.MARGIN, 4, Check.HEIGHT, 5);
        Check.text(flow, 0, "b");
        int last = Check.element(flow, 0, Check.MARGIN, 1, Check.HEIGHT, 2);
        Check.due("height", flow.lay(40), 7 + 4 + 5 + 4 + 7 + 1 + 2 + 1);
        Check.dueWords("words", flow, 0, 0, 0, 20);
        Check.due("behind lines", flow.box(first, 1), 11);
        Check.due("behind lines behind a block", flow.box(last, 1), 28);
    }

    private static void nothingBetween() {
        Check.sentence("A run of INLINE things and FLOATS makes LINES (of FLOATS alone too)");
        for (int kind = 0; kind < 4; kind++) {
            LineFlow flow = new LineFlow();
            Check.element(flow, 0, Check.MARGIN, 4, Check.HEIGHT, 1);
            int between = flow.node(0, kind == 1 ? 1 : 0);
            Check.having(flow, between, Check.DISPLAY, new int[] {1, 1, 0, 3}[kind], Check.FLOAT, kind == 2 ? 1 : 0);
            int last = Check.element(flow, 0, Check.MARGIN, 4, Check.HEIGHT, 1);
            flow.lay(40);
            String[] what = {"an empty inline element", "an empty text", "an empty float", "a thing that is none"};
            Check.due("behind " + what[kind], flow.box(last, 1), kind == 3 ? 9 : 13);
        }
    }

    private static void belowFloats() {
        Check.sentence("but never above the end of a FLOAT of the same BLOCK that is ahead of it");
        LineFlow flow = new LineFlow();
        Check.floating(flow, 0, 1, 6, 8, 2);
        Check.floating(flow, 0, 2, 6, 3, 2);
        int block = Check.element(flow, 0, Check.HEIGHT, 1);
        int[][] due = {{0, 12}, {11, 12}, {12, 12}, {13, 13}};
        for (int[] d : due) {
            flow.set(block, Check.MARGIN, d[0]);
            flow.lay(60);
            Check.due("margin " + d[0], flow.box(block, 1), d[1]);
        }
    }

    private static void belowWaitingFloat() {
        Check.sentence("a FLOAT that is ahead of it: one that waited for the LINE's end, too");
        LineFlow flow = new LineFlow();
        Check.text(flow, 0, "a");
        int left = Check.floating(flow, 0, 1, 6, 8, 0);
        int block = Check.element(flow, 0, Check.HEIGHT, 1);
        Check.due("height", flow.lay(60), 16);
        Check.dueBox("the float", flow, left, 0, 7, 6, 8);
        Check.due("the block", flow.box(block, 1), 15);
    }

    private static void otherFloats() {
        Check.sentence("a FLOAT of the same BLOCK");
        LineFlow flow = new LineFlow();
        int low = Check.element(flow, 0, Check.HEIGHT, 2);
        Check.floating(flow, low, 1, 6, 30, 0);
        int next = Check.element(flow, 0, Check.HEIGHT, 1);
        int within = Check.element(flow, next, Check.HEIGHT, 1);
        Check.floating(flow, 0, 1, 6, 30, 0);
        Check.due("height", flow.lay(40), 33);
        Check.due("a float of another block is ahead", flow.box(next, 1), 2);
        Check.due("a block in a block", flow.box(within, 1), 2);
        Check.due("a float of the outer block is ahead", flow.box(low, 1), 0);
    }

    private static void toldHeight() {
        Check.sentence("HEIGHT: that told");
        LineFlow flow = new LineFlow();
        int block = Check.element(flow, 0);
        int within = Check.element(flow, block, Check.HEIGHT, 10);
        int next = Check.element(flow, 0, Check.HEIGHT, 1);
        for (int h : new int[] {0, 1, 9, 10, 11, 400}) {
            flow.set(block, Check.HEIGHT, h);
            Check.due("told " + h, flow.lay(40), h + 1);
            Check.dueBox("told " + h, flow, block, 0, 0, 40, h);
            Check.dueBox("what is in it", flow, within, 0, 0, 40, 10);
            Check.due("the next one", flow.box(next, 1), h);
        }
        flow.set(0, Check.HEIGHT, 0);
        Check.due("of the root, 0", flow.lay(40), 0);
        flow.set(0, Check.HEIGHT, 3);
        Check.due("of the root, 3", flow.lay(40), 3);
    }

    private static void leastHeight() {
        Check.sentence("A height that is told is at least border and padding");
        LineFlow flow = new LineFlow();
        int block = Check.element(flow, 0, Check.BORDER, 2, Check.PADDING, 3);
        int[][] due = {{NONE, 10}, {0, 10}, {9, 10}, {10, 10}, {11, 11}};
        for (int[] d : due) {
            flow.set(block, Check.HEIGHT, d[0]);
            Check.due("height " + d[0], flow.lay(40), d[1]);
        }
        Check.having(flow, 0, Check.BORDER, 9, Check.PADDING, 50, Check.HEIGHT, 117);
        Check.due("of the root", flow.lay(40), 118);
    }

    private static void farthest() {
        Check.sentence("else as far as y, the last BLOCK's BOTTOM, and the ends of its FLOATS with their margins reach,"
                + " whatever is more; with border and padding");
        LineFlow flow = new LineFlow();
        Check.having(flow, 0, Check.BORDER, 1, Check.PADDING, 2);
        Check.due("nothing", flow.lay(60), 6);
        int left = Check.floating(flow, 0, 1, 6, 8, 2);
        Check.due("a float", flow.lay(60), 18);
        Check.text(flow, 0, "a");
        Check.due("a line beside it", flow.lay(60), 18);
        flow.set(left, Check.HEIGHT, 2);
        Check.due("the line is more", flow.lay(60), 13);
        flow.set(left, Check.HEIGHT, 3);
        Check.due("both the same", flow.lay(60), 13);
        flow.set(left, Check.HEIGHT, 4);
        Check.due("the float is more", flow.lay(60), 14);
        int block = Check.element(flow, 0, Check.MARGIN, 5, Check.HEIGHT, 1);
        Check.due("the block's BOTTOM", flow.lay(60), 7 + 5 + 1 + 5 + 6);
        Check.floating(flow, 0, 2, 6, 4, 0);
        Check.due("a float behind it", flow.lay(60), 7 + 5 + 1 + 5 + 4 + 6);
        Check.due("the block", flow.box(block, 1), 15);
    }

    private static void inlineWithin() {
        Check.sentence("What would be a FLOAT or BLOCK within an inline ELEMENT is as inline there");
        LineFlow flow = new LineFlow();
        int inline = Check.element(flow, 0, Check.DISPLAY, 1, Check.PADDING, 9, Check.MARGIN, 9, Check.HEIGHT, 90);
        Check.text(flow, inline, "a");
        int block = Check.element(flow, inline, Check.MARGIN, 5, Check.BORDER, 2, Check.HEIGHT, 30);
        Check.text(flow, block, "b");
        int aFloat = Check.element(flow, inline, Check.FLOAT, 2, Check.WIDTH, 20);
        Check.text(flow, aFloat, "c");
        int flex = Check.element(flow, block, Check.DISPLAY, 2, Check.WIDTH, 20);
        Check.text(flow, flex, "d");
        int gone = Check.element(flow, block, Check.DISPLAY, 3);
        Check.text(flow, gone, "e");
        Check.text(flow, 0, "f");
        Check.due("height", flow.lay(40), 7);
        Check.dueWords("one line", flow, 0, 0, 4, 0, 8, 0, 12, 0, 16, 0);
        for (int n : new int[] {inline, block, aFloat, flex, gone}) {
            Check.dueNoBox("as inline", flow, n);
        }
    }

    private static void deepest() {
        Check.sentence("none more than 12 deep: what lies 12 deep is laid");
        LineFlow flow = new LineFlow();
        for (int deep = 1; deep <= 11; deep++) {
            Check.element(flow, deep - 1, Check.PADDING, 1);
        }
        int piece = Check.piece(flow, 11, Check.HEIGHT, 5);
        int text = Check.text(flow, 11, "a");
        Check.due("height", flow.lay(60), 7 + 22);
        Check.dueBox("the piece", flow, piece, 11, 13, 8, 5);
        Check.dueWords("the word", flow, 19, 11);
        Check.due("its text", flow.word(0, 0), text);
    }

    public static void main(String[] args) {
        widthOfRoot();
        refused();
        rootBox();
        innerWidth();
        toldWidth();
        share();
        untold();
        leastWidth();
        x();
        toldIsTheBox();
        firstBlock();
        behindBlock();
        emptyBlock();
        linesBehindBlock();
        nothingBetween();
        belowFloats();
        belowWaitingFloat();
        otherFloats();
        toldHeight();
        leastHeight();
        farthest();
        inlineWithin();
        deepest();
        Check.finish();
    }
}
