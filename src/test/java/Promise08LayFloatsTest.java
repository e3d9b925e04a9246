/** Promise 8: lay; floats, and lines that go round them. */
public final class Promise08LayFloatsTest {
    private static final int LEFT = 1;
    private static final int RIGHT = 2;
    private static final int NONE = LineFlow.NONE;

    private static void edges() {
        Check.sentence("the LINE goes from the INNER left edge, or the greatest right edge (with margin) of left FLOATS"
                + " of this BLOCK that are AT y, to the right one likewise");
        LineFlow flow = new LineFlow();
        flow.set(0, Check.PADDING, 1);
        Check.floating(flow, 0, LEFT, 12, 14, 1);
        Check.floating(flow, 0, LEFT, 3, 5, 1);
        Check.floating(flow, 0, RIGHT, 10, 14, 2);
        Check.floating(flow, 0, RIGHT, 1, 3, 2);
        Check.text(flow, 0, "ab ab cdef a abcde");
        flow.lay(60);
        Check.dueWords("from left", flow, 20, 1, 31, 1, 15, 8, 34, 8, 15, 15);
        flow.set(0, Check.ALIGN, 2);
        flow.lay(60);
        Check.dueWords("from right", flow, 21, 1, 32, 1, 22, 8, 41, 8, 25, 15);
    }

    private static void atTop() {
        Check.sentence("AT y (y is not above them");
        LineFlow flow = new LineFlow();
        Check.floating(flow, 0, LEFT, 10, 7, 0);
        int low = Check.floating(flow, 0, LEFT, 15, 10, 2);
        Check.text(flow, 0, "ab ab");
        Check.due("height", flow.lay(24), 28);
        Check.dueBox("it goes below the first", flow, low, 2, 9, 15, 10);
        Check.dueWords("the second line is at its y with margin", flow, 10, 0, 0, 21);
        flow.set(1, Check.HEIGHT, 8);
        flow.lay(24);
        Check.dueWords("the second line is above it", flow, 10, 0, 10, 7);
    }

    private static void atEnd() {
        Check.sentence("AT y: and above their end with margin)");
        int[][] due = {{7, 0, 0}, {8, 0, 10}, {5, 1, 0}, {6, 1, 12}, {3, 2, 0}, {4, 2, 14}};
        for (int[] d : due) {
            LineFlow flow = new LineFlow();
            Check.floating(flow, 0, LEFT, 10, d[0], d[1]);
            Check.text(flow, 0, "a");
            Check.breakIn(flow, 0);
            Check.text(flow, 0, "b");
            flow.lay(40);
            Check.dueWords(d[0] + " high, margin " + d[1], flow, 10 + 2 * d[1], 0, d[2], 7);
        }
    }

    private static void ofThisBlock() {
        Check.sentence("FLOATS of this BLOCK");
        LineFlow flow = new LineFlow();
        int low = Check.element(flow, 0, Check.HEIGHT, 2);
        Check.floating(flow, low, LEFT, 10, 30, 0);
        Check.text(flow, 0, "a");
        flow.lay(40);
        Check.dueWords("one of another block", flow, 0, 2);
    }

    private static void flatFloat() {
        Check.sentence("AT y: a FLOAT of no height never is");
        LineFlow flow = new LineFlow();
        int flat = Check.floating(flow, 0, LEFT, 10, 0, 0);
        int next = Check.floating(flow, 0, LEFT, 15, 1, 0);
        Check.text(flow, 0, "a");
        Check.due("height", flow.lay(20), 7);
        Check.dueBox("flat", flow, flat, 0, 0, 10, 0);
        Check.dueBox("next", flow, next, 0, 0, 15, 1);
        Check.dueWords("beside the next", flow, 15, 0);
    }

    private static void leastEnd() {
        Check.sentence("if nothing is on the LINE and FLOATS are AT y, y goes on to the least end of these, and it is"
                + " tried again");
        String[] words = {"ab", "abi", "abcd", "abcdi", "abcdefg", "abcdefgh"};
        int[][] due = {{10, 0}, {10, 5}, {10, 5}, {10, 5}, {0, 9}, {0, 9}};
        for (int i = 0; i < words.length; i++) {
            LineFlow flow = new LineFlow();
            Check.floating(flow, 0, LEFT, 10, 9, 0);
            Check.floating(flow, 0, RIGHT, 10, 5, 0);
            Check.text(flow, 0, words[i]);
            Check.due("height with " + words[i], flow.lay(28), Math.max(9, due[i][1] + 7));
            Check.dueWords(words[i], flow, due[i]);
        }
    }

    private static void nextLineBehindThat() {
        Check.sentence("y goes on: the next LINE is behind that one");
        LineFlow flow = new LineFlow();
        Check.floating(flow, 0, LEFT, 10, 9, 0);
        Check.text(flow, 0, "abcde a abcde");
        Check.due("height", flow.lay(24), 9 + 7 + 7 + 7);
        Check.dueWords("words", flow, 0, 9, 0, 16, 0, 23);
    }

    private static void somethingOnLine() {
        Check.sentence("if nothing is on the LINE: else the ITEM comes onto the next LINE first");
        LineFlow flow = new LineFlow();
        Check.floating(flow, 0, LEFT, 10, 15, 0);
        Check.text(flow, 0, "a abcde");
        Check.due("height", flow.lay(20), 15 + 7);
        Check.dueWords("to the end from the next line on", flow, 10, 0, 0, 15);
    }

    private static void toldWidth() {
        Check.sentence("A FLOAT: WIDTH that told");
        LineFlow flow = new LineFlow();
        flow.set(0, Check.PADDING, 5);
        int aFloat = Check.element(flow, 0, Check.FLOAT, LEFT, Check.MARGIN, 2);
        Check.text(flow, aFloat, "ab");
        int[][] due = {{0, 0}, {1, 1}, {400, 400}, {1000, 0}, {1001, 0}, {1033, 16}, {1099, 49}, {1100, 50}};
        for (int[] d : due) {
            flow.set(aFloat, Check.WIDTH, d[0]);
            flow.lay(60);
            Check.dueBox("told " + d[0], flow, aFloat, 7, 7, d[1], 7);
        }
    }

    private static void untoldWidth() {
        Check.sentence("else the lesser one of its text in one line, with border and padding, and the INNER width without"
                + " its margins");
        LineFlow flow = new LineFlow();
        int aFloat = Check.element(flow, 0, Check.FLOAT, LEFT, Check.BORDER, 1, Check.PADDING, 2);
        Check.text(flow, aFloat, " ab cd ");
        int[][] due = {{0, 25}, {17, 25}, {18, 24}, {19, 22}};
        for (int[] d : due) {
            flow.set(aFloat, Check.MARGIN, d[0]);
            flow.lay(60);
            Check.due("margin " + d[0], flow.box(aFloat, 2), d[1]);
        }
        flow.set(aFloat, Check.MARGIN, 0);
        flow.set(aFloat, Check.SIZE, 2);
        flow.lay(60);
        Check.due("by its own size", flow.box(aFloat, 2), 44);
        int empty = Check.element(flow, 0, Check.FLOAT, RIGHT);
        Check.piece(flow, empty);
        flow.lay(60);
        Check.dueBox("no text", flow, empty, 60, 0, 0, 8);
    }

    private static void leastWidth() {
        Check.sentence("A FLOAT: at least border and padding");
        LineFlow flow = new LineFlow();
        int aFloat = Check.element(flow, 0, Check.FLOAT, LEFT, Check.BORDER, 2, Check.PADDING, 3);
        int[][] due = {{NONE, 10}, {0, 10}, {9, 10}, {10, 10}, {11, 11}, {1000, 10}};
        for (int[] d : due) {
            flow.set(aFloat, Check.WIDTH, d[0]);
            flow.lay(60);
            Check.dueBox("width " + d[0], flow, aFloat, 0, 0, d[1], 10);
        }
        flow.set(aFloat, Check.WIDTH, NONE);
        flow.set(aFloat, Check.MARGIN, 50);
        flow.lay(60);
        Check.dueBox("its margins leave less", flow, aFloat, 50, 50, 10, 10);
    }

    private static void laidLikeBlock() {
        Check.sentence("it is laid like a BLOCK");
        LineFlow flow = new LineFlow();
        int aFloat = Check.element(flow, 0, Check.FLOAT, RIGHT, Check.WIDTH, 20, Check.ALIGN, 2, Check.PADDING, 1);
        Check.text(flow, aFloat, "ab cd");
        int block = Check.element(flow, aFloat, Check.HEIGHT, 2, Check.MARGIN, 3);
        int within = Check.floating(flow, aFloat, LEFT, 4, 5, 0);
        Check.due("height", flow.lay(50), 29);
        Check.dueBox("the float", flow, aFloat, 30, 0, 20, 29);
        Check.dueWords("its lines", flow, 41, 1, 41, 8);
        Check.dueBox("a block in it", flow, block, 34, 18, 12, 2);
        Check.dueBox("a float in it", flow, within, 31, 23, 4, 5);
        flow.set(aFloat, Check.HEIGHT, 1);
        Check.due("its height is told", flow.lay(50), 2);
        flow.set(aFloat, Check.DISPLAY, 2);
        flow.set(aFloat, Check.HEIGHT, NONE);
        Check.due("a flex", flow.lay(50), 10);
        Check.dueBox("side by side", flow, block, 34, 4, 0, 2);
        Check.dueBox("side by side", flow, within, 37, 1, 4, 5);
    }

    private static void inlineFloat() {
        Check.sentence("FLOATS (ELEMENTS with FLOAT): whatever their DISPLAY, but none");
        LineFlow flow = new LineFlow();
        int inline = Check.element(flow, 0, Check.FLOAT, LEFT, Check.DISPLAY, 1, Check.WIDTH, 20);
        int within = Check.element(flow, inline, Check.HEIGHT, 4, Check.MARGIN, 1);
        int gone = Check.element(flow, 0, Check.FLOAT, LEFT, Check.DISPLAY, 3, Check.WIDTH, 20, Check.HEIGHT, 50);
        Check.text(flow, 0, "a");
        Check.due("height", flow.lay(60), 7);
        Check.dueBox("inline", flow, inline, 0, 0, 20, 6);
        Check.dueBox("a block in it", flow, within, 1, 1, 18, 4);
        Check.dueNoBox("none", flow, gone);
        Check.dueWords("beside it", flow, 20, 0);
    }

    private static void waits() {
        Check.sentence("If its LINE has an ITEM, it waits for the LINE's end");
        LineFlow flow = new LineFlow();
        Check.text(flow, 0, "ab ");
        int first = Check.floating(flow, 0, LEFT, 5, 9, 0);
        int second = Check.floating(flow, 0, LEFT, 4, 2, 0);
        Check.text(flow, 0, "c defg");
        Check.due("height", flow.lay(25), 16);
        Check.dueBox("first", flow, first, 0, 7, 5, 9);
        Check.dueBox("second", flow, second, 5, 7, 4, 2);
        Check.dueWords("what goes on its line is not moved", flow, 0, 0, 11, 0, 9, 7);
        Check.due("wide enough for all", flow.lay(40), 16);
        Check.dueWords("one line", flow, 0, 0, 11, 0, 18, 0);
        Check.dueBox("at its end", flow, first, 0, 7, 5, 9);
    }

    private static void waitsForEachEnd() {
        Check.sentence("the LINE's end: by a BREAK, by a BLOCK, or by the end of all");
        LineFlow flow = new LineFlow();
        Check.piece(flow, 0, Check.HEIGHT, 3);
        int atBreak = Check.floating(flow, 0, RIGHT, 5, 4, 0);
        Check.breakIn(flow, 0);
        Check.piece(flow, 0, Check.HEIGHT, 3);
        int atBlock = Check.floating(flow, 0, RIGHT, 5, 4, 0);
        int block = Check.element(flow, 0, Check.HEIGHT, 1);
        Check.piece(flow, 0, Check.HEIGHT, 3);
        int atEnd = Check.floating(flow, 0, RIGHT, 5, 4, 0);
        Check.due("height", flow.lay(40), 18);
        Check.dueBox("a break", flow, atBreak, 35, 3, 5, 4);
        Check.dueBox("a block", flow, atBlock, 30, 6, 5, 4);
        Check.due("the block", flow.box(block, 1), 10);
        Check.dueBox("the end", flow, atEnd, 35, 14, 5, 4);
    }

    private static void atOnce() {
        Check.sentence("else it is put at once, at the LINE's y");
        LineFlow flow = new LineFlow();
        flow.set(0, Check.PADDING, 2);
        Check.text(flow, 0, " \n");
        int behindBlanks = Check.floating(flow, 0, LEFT, 5, 3, 0);
        Check.breakIn(flow, 0);
        int behindBreak = Check.floating(flow, 0, LEFT, 5, 3, 1);
        Check.text(flow, 0, "a");
        flow.lay(40);
        Check.dueBox("behind blanks alone", flow, behindBlanks, 2, 2, 5, 3);
        Check.dueBox("behind a break", flow, behindBreak, 3, 10, 5, 3);
        Check.dueWords("the line goes round it", flow, 9, 9);
    }

    private static void behindBlock() {
        Check.sentence("at the LINE's y: behind a BLOCK at its end and its BOTTOM");
        LineFlow flow = new LineFlow();
        Check.element(flow, 0, Check.HEIGHT, 5, Check.MARGIN, 3);
        int left = Check.floating(flow, 0, LEFT, 6, 8, 2);
        int next = Check.element(flow, 0, Check.HEIGHT, 1, Check.MARGIN, 13);
        flow.lay(40);
        Check.dueBox("float", flow, left, 2, 13, 6, 8);
        Check.due("the lines' end is where they began", flow.box(next, 1), 24);
    }

    private static void notAboveEarlier() {
        Check.sentence("but not above an earlier FLOAT's y (all with margins)");
        LineFlow flow = new LineFlow();
        Check.floating(flow, 0, LEFT, 10, 20, 0);
        int low = Check.floating(flow, 0, LEFT, 25, 3, 2);
        int small = Check.floating(flow, 0, RIGHT, 1, 2, 0);
        Check.text(flow, 0, "ab");
        flow.lay(30);
        Check.dueBox("below the first", flow, low, 2, 22, 25, 3);
        Check.dueBox("beside the second, with its margin", flow, small, 29, 20, 1, 2);
        Check.dueWords("a line may be above them", flow, 10, 0);
    }

    private static void justGoes() {
        Check.sentence("if it goes (with margins) into what the LINE is there wide");
        LineFlow flow = new LineFlow();
        Check.floating(flow, 0, LEFT, 10, 20, 0);
        int right = Check.floating(flow, 0, RIGHT, 16, 6, 2);
        flow.lay(30);
        Check.dueBox("just goes", flow, right, 12, 2, 16, 6);
        flow.lay(29);
        Check.dueBox("a point less", flow, right, 11, 22, 16, 6);
    }

    private static void goesDown() {
        Check.sentence("else y goes on to the least end of FLOATS AT it, and so on");
        LineFlow flow = new LineFlow();
        Check.floating(flow, 0, LEFT, 10, 20, 0);
        Check.floating(flow, 0, RIGHT, 10, 6, 0);
        int wide = Check.floating(flow, 0, LEFT, 20, 3, 0);
        int[][] due = {{10, 10, 0}, {11, 10, 6}, {20, 10, 6}, {21, 0, 20}, {30, 0, 20}};
        for (int[] d : due) {
            flow.set(wide, Check.WIDTH, d[0]);
            flow.lay(30);
            Check.dueBox(d[0] + " wide", flow, wide, d[1], d[2], d[0], 3);
        }
    }

    private static void allTheSame() {
        Check.sentence("with none it is put all the same");
        LineFlow flow = new LineFlow();
        flow.set(0, Check.PADDING, 1);
        int first = Check.floating(flow, 0, LEFT, 40, 4, 1);
        int second = Check.floating(flow, 0, RIGHT, 40, 4, 1);
        Check.text(flow, 0, "a");
        Check.due("height", flow.lay(32), 1 + 6 + 6 + 7 + 1);
        Check.dueBox("left", flow, first, 2, 2, 40, 4);
        Check.dueBox("right, below it", flow, second, -10, 8, 40, 4);
        Check.dueWords("below both", flow, 1, 13);
    }

    private static void atTheEdge() {
        Check.sentence("Left ones stand at the left edge there, right ones at the right");
        LineFlow flow = new LineFlow();
        int left = Check.floating(flow, 0, LEFT, 4, 9, 1);
        int nextLeft = Check.floating(flow, 0, LEFT, 5, 9, 2);
        int right = Check.floating(flow, 0, RIGHT, 4, 9, 1);
        int nextRight = Check.floating(flow, 0, RIGHT, 5, 9, 2);
        flow.lay(60);
        Check.dueBox("left", flow, left, 1, 1, 4, 9);
        Check.dueBox("behind it", flow, nextLeft, 8, 2, 5, 9);
        Check.dueBox("right", flow, right, 55, 1, 4, 9);
        Check.dueBox("ahead of it", flow, nextRight, 47, 2, 5, 9);
    }

    private static void breakBeside() {
        Check.sentence("A BREAK ends the LINE: beside FLOATS its y does not go on to their end");
        LineFlow flow = new LineFlow();
        Check.floating(flow, 0, LEFT, 60, 30, 0);
        Check.breakIn(flow, 0);
        int next = Check.floating(flow, 0, LEFT, 0, 1, 0);
        Check.due("height", flow.lay(60), 30);
        Check.dueBox("at the next line's y", flow, next, 60, 7, 0, 1);
    }

    private static void floatsLater() {
        Check.sentence("All is laid: nothing of an earlier laying counts");
        LineFlow flow = new LineFlow();
        flow.set(0, Check.ALIGN, 2);
        Check.text(flow, 0, "x");
        int element = Check.element(flow, 0, Check.DISPLAY, 1, Check.ALIGN, 2, Check.WIDTH, 30);
        Check.text(flow, element, "m");
        Check.text(flow, 0, "y");
        flow.lay(60);
        Check.dueWords("inline", flow, 47, 0, 51, 0, 56, 0);
        flow.set(element, Check.FLOAT, LEFT);
        flow.lay(60);
        Check.dueWords("a float that waits", flow, 52, 0, 25, 7, 56, 0);
        flow.set(element, Check.FLOAT, 0);
        flow.lay(60);
        Check.dueWords("inline again", flow, 47, 0, 51, 0, 56, 0);
    }

    private static void goneLater() {
        Check.sentence("All is laid: a FLOAT that has DISPLAY none now is not put");
        LineFlow flow = new LineFlow();
        Check.text(flow, 0, "a");
        int first = Check.floating(flow, 0, LEFT, 5, 3, 0);
        int last = Check.floating(flow, 0, RIGHT, 5, 9, 0);
        Check.due("both", flow.lay(40), 16);
        Check.dueBox("last", flow, last, 35, 7, 5, 9);
        flow.set(last, Check.DISPLAY, 3);
        Check.due("the first alone", flow.lay(40), 10);
        Check.dueBox("first", flow, first, 0, 7, 5, 3);
        Check.dueNoBox("last", flow, last);
    }

    public static void main(String[] args) {
        edges();
        atTop();
        atEnd();
        ofThisBlock();
        flatFloat();
        leastEnd();
        nextLineBehindThat();
        somethingOnLine();
        toldWidth();
        untoldWidth();
        leastWidth();
        laidLikeBlock();
        inlineFloat();
        waits();
        waitsForEachEnd();
        atOnce();
        behindBlock();
        notAboveEarlier();
        justGoes();
        goesDown();
        allTheSame();
        atTheEdge();
        breakBeside();
        floatsLater();
        goneLater();
        Check.finish();
    }
}
