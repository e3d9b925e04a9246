/** Promises 8 to 11: words, pieces and breaks in lines. */
public final class LineTest {
    private static final int NONE = LineFlow.NONE;

    private static void dueWord(LineFlow flow, int i, int... what) {
        for (int k = 0; k < what.length; k++) {
            Check.due("word(" + i + ", " + k + ")", flow.word(i, k), what[k]);
        }
    }

    private static void words() {
        LineFlow flow = new LineFlow();
        int first = Check.text(flow, 0, " ab\n \nim");
        int second = Check.text(flow, 0, "c ");
        int third = Check.text(flow, 0, "d");
        flow.set(second, Check.SIZE, 2);
        flow.set(third, Check.SIZE, 3);
        Check.due("height", flow.lay(100), 21);
        Check.due("words", flow.words(), 4);
        dueWord(flow, 0, first, 0, 14, 8, 7, 1, 2);
        dueWord(flow, 1, first, 11, 14, 7, 7, 6, 2);
        dueWord(flow, 2, second, 18, 7, 8, 14, 0, 1);
        dueWord(flow, 3, third, 18 + 8 + 9, 0, 12, 21, 0, 1);
        Check.due("word -1", flow.word(-1, 0), NONE);
        Check.due("word 4", flow.word(4, 0), NONE);
        Check.due("what -1", flow.word(0, -1), NONE);
        Check.due("what 7", flow.word(0, 7), NONE);
        Check.tape(flow, "changed");
        flow.text(first);
        flow.set(first, Check.SIZE, 4);
        dueWord(flow, 0, first, 0, 14, 8, 7, 1, 2);
        Check.due("as it was laid", flow.words(), 4);
        flow.lay(7);
        Check.due("still", flow.words(), 4);
    }

    private static void treeOrder() {
        LineFlow flow = new LineFlow();
        int a = Check.element(flow, 0, Check.DISPLAY, 1);
        int last = Check.text(flow, 0, "z");
        int inA = Check.text(flow, a, "x y");
        int b = Check.element(flow, a);
        int inB = Check.text(flow, b, "w");
        flow.lay(60);
        int[] texts = {inA, inA, inB, last};
        Check.dueWords("the tree's order", flow, 0, 0, 7, 0, 11, 0, 16, 0);
        for (int i = 0; i < 4; i++) {
            Check.due("text of word " + i, flow.word(i, 0), texts[i]);
        }
    }

    private static void breaking() {
        LineFlow flow = new LineFlow();
        Check.text(flow, 0, "abc ab ");
        Check.text(flow, 0, "a");
        int glued = Check.text(flow, 0, "b");
        Check.due("just goes", flow.lay(34), 7);
        Check.dueWords("34", flow, 0, 0, 15, 0, 26, 0, 30, 0);
        Check.due("between any two", flow.lay(33), 14);
        Check.dueWords("33", flow, 0, 0, 15, 0, 26, 0, 0, 7);
        flow.lay(29);
        Check.dueWords("29", flow, 0, 0, 15, 0, 0, 7, 4, 7);
        flow.set(glued, Check.SIZE, 4);
        flow.lay(29);
        Check.dueWords("on the lower edge", flow, 0, 0, 15, 0, 0, 28, 4, 7);
        Check.due("height", flow.box(0, 3), 35);
    }

    private static void tooWide() {
        LineFlow flow = new LineFlow();
        Check.text(flow, 0, "a abcdefgh b");
        for (int align = 0; align < 3; align++) {
            flow.set(0, Check.ALIGN, align);
            Check.due("height", flow.lay(20), 21);
            int[] rest = {0, 8, 16};
            Check.dueWords("put all the same", flow, rest[align], 0, 0, 7, rest[align], 14);
        }
    }

    private static void align() {
        LineFlow flow = new LineFlow();
        Check.having(flow, 0, Check.PADDING, 3, Check.ALIGN, 1);
        int inline = Check.element(flow, 0, Check.DISPLAY, 1, Check.ALIGN, 2);
        Check.text(flow, inline, "ab c de");
        flow.lay(30);
        Check.dueWords("half, down", flow, 7, 3, 18, 3, 11, 10);
        flow.set(0, Check.ALIGN, 2);
        flow.lay(31);
        Check.dueWords("all", flow, 13, 3, 24, 3, 20, 10);
    }

    private static void pieces() {
        LineFlow flow = new LineFlow();
        Check.text(flow, 0, "a ");
        int plain = Check.piece(flow, 0, Check.SIZE, 2);
        int told = Check.piece(flow, 0, Check.WIDTH, 3, Check.HEIGHT, 20, Check.MARGIN, 9, Check.BORDER, 9);
        Check.text(flow, 0, "b");
        int share = Check.piece(flow, 0, Check.WIDTH, 1033, Check.HEIGHT, 0);
        Check.having(flow, 0, Check.BORDER, 1);
        Check.due("height", flow.lay(52), 22);
        Check.dueWords("words", flow, 1, 14, 22, 14);
        Check.dueBox("8 wide and high, behind its own blank", flow, plain, 11, 13, 8, 8);
        Check.dueBox("as told", flow, told, 19, 1, 3, 20);
        Check.dueBox("a share of the inner width, down", flow, share, 26, 21, 16, 0);
        flow.lay(41);
        Check.dueBox("onto the next line", flow, share, 26, 21, 12, 0);
        flow.set(share, Check.WIDTH, 15);
        flow.lay(41);
        Check.dueBox("goes no more", flow, share, 1, 21, 15, 0);
        Check.due("a line without height", flow.box(0, 3), 22);
    }

    private static void breaks() {
        LineFlow flow = new LineFlow();
        Check.breakIn(flow, 0, Check.SIZE, 2);
        Check.text(flow, 0, "a");
        Check.breakIn(flow, 0, Check.SIZE, 4);
        int inline = Check.element(flow, 0, Check.DISPLAY, 1);
        Check.breakIn(flow, inline, Check.SIZE, 3);
        Check.text(flow, 0, " b");
        Check.breakIn(flow, 0);
        Check.due("height", flow.lay(40), 14 + 7 + 21 + 7);
        Check.dueWords("words", flow, 0, 14, 0, 42);
        LineFlow flat = new LineFlow();
        Check.piece(flat, 0, Check.HEIGHT, 0);
        Check.breakIn(flat, 0);
        Check.breakIn(flat, 0);
        Check.due("a line of a flat piece has something", flat.lay(40), 7);
    }

    private static void blanksAcross() {
        LineFlow flow = new LineFlow();
        Check.text(flow, 0, "a");
        int inline = Check.element(flow, 0, Check.DISPLAY, 1);
        Check.text(flow, inline, "\n");
        int gone = Check.element(flow, 0, Check.DISPLAY, 3);
        Check.text(flow, gone, " c ");
        Check.text(flow, 0, "b");
        Check.text(flow, gone, " ");
        Check.text(flow, 0, "d");
        flow.lay(40);
        Check.dueWords("blanks in an inline element alone", flow, 0, 0, 7, 0, 11, 0);
    }

    private static void linesAndBlocks() {
        LineFlow flow = new LineFlow();
        Check.text(flow, 0, "a");
        int block = Check.element(flow, 0, Check.MARGIN, 4, Check.HEIGHT, 5);
        Check.text(flow, 0, "b");
        Check.due("height", flow.lay(40), 7 + 4 + 5 + 4 + 7);
        Check.due("behind lines", flow.box(block, 1), 11);
        Check.dueWords("behind a block", flow, 0, 0, 0, 20);
    }

    public static void main(String[] args) {
        words();
        treeOrder();
        breaking();
        tooWide();
        align();
        pieces();
        breaks();
        blanksAcross();
        linesAndBlocks();
        Check.finish();
    }
}
