/** Promise 8: lay; what stands side by side in a flex. */
public final class Promise08LayFlexTest {
    private static final int NONE = LineFlow.NONE;

    private static LineFlow rootFlex() {
        LineFlow flow = new LineFlow();
        flow.set(0, Check.DISPLAY, 2);
        return flow;
    }

    private static void leftOut() {
        Check.sentence("its ELEMENTS and PIECES that have not DISPLAY none (TEXTS and BREAKS are left out)");
        LineFlow flow = rootFlex();
        Check.text(flow, 0, "abcdef");
        Check.breakIn(flow, 0, Check.SIZE, 4);
        int goneElement = Check.element(flow, 0, Check.DISPLAY, 3, Check.WIDTH, 9, Check.HEIGHT, 90);
        int gonePiece = Check.piece(flow, 0, Check.DISPLAY, 3, Check.HEIGHT, 90);
        Check.due("height of nothing", flow.lay(40), 0);
        int piece = Check.piece(flow, 0);
        Check.due("height", flow.lay(40), 8);
        Check.dueBox("the first of the row", flow, piece, 0, 0, 8, 8);
        Check.dueNoBox("none", flow, goneElement);
        Check.dueNoBox("none", flow, gonePiece);
        Check.due("no words", flow.words(), 0);
    }

    private static void pieces() {
        Check.sentence("PIECES as wide and high as told");
        LineFlow flow = rootFlex();
        flow.set(0, Check.PADDING, 5);
        int piece = Check.piece(flow, 0);
        Check.due("untold", flow.lay(60), 18);
        Check.dueBox("untold", flow, piece, 5, 5, 8, 8);
        int[][] due = {{0, 0}, {400, 400}, {1000, 0}, {1033, 16}, {1099, 49}, {1100, 50}};
        for (int[] d : due) {
            flow.set(piece, Check.WIDTH, d[0]);
            flow.lay(60);
            Check.dueBox("width " + d[0], flow, piece, 5, 5, d[1], 8);
        }
        flow.set(piece, Check.HEIGHT, 0);
        Check.due("no height", flow.lay(60), 10);
        flow.set(piece, Check.HEIGHT, 400);
        Check.due("the greatest height", flow.lay(60), 410);
    }

    private static void sideBySide() {
        Check.sentence("each with its margin around, from the INNER left edge at the INNER y");
        LineFlow flow = rootFlex();
        Check.having(flow, 0, Check.BORDER, 1, Check.PADDING, 2, Check.ALIGN, 2);
        int first = Check.element(flow, 0, Check.WIDTH, 5, Check.HEIGHT, 6, Check.MARGIN, 2);
        int piece = Check.piece(flow, 0, Check.MARGIN, 3);
        int last = Check.element(flow, 0, Check.WIDTH, 4, Check.HEIGHT, 1);
        Check.due("height", flow.lay(60), 20);
        Check.dueBox("first", flow, first, 5, 5, 5, 6);
        Check.dueBox("a piece", flow, piece, 15, 6, 8, 8);
        Check.dueBox("last", flow, last, 26, 3, 4, 1);
    }

    private static void beyond() {
        Check.sentence("stand side by side: beyond the INNER right edge, too");
        LineFlow flow = rootFlex();
        int first = Check.piece(flow, 0, Check.WIDTH, 15);
        int second = Check.piece(flow, 0, Check.WIDTH, 15);
        int third = Check.element(flow, 0, Check.WIDTH, 1100);
        Check.due("height", flow.lay(20), 8);
        Check.dueBox("first", flow, first, 0, 0, 15, 8);
        Check.dueBox("second", flow, second, 15, 0, 15, 8);
        Check.dueBox("third", flow, third, 30, 0, 20, 0);
    }

    private static void toldWidth() {
        Check.sentence("WIDTH that told");
        LineFlow flow = rootFlex();
        flow.set(0, Check.PADDING, 5);
        int element = Check.element(flow, 0, Check.MARGIN, 1);
        Check.text(flow, element, "ab");
        int[][] due = {{0, 0}, {1, 1}, {400, 400}, {1000, 0}, {1001, 0}, {1033, 16}, {1099, 49}, {1100, 50}};
        for (int[] d : due) {
            flow.set(element, Check.WIDTH, d[0]);
            flow.lay(60);
            Check.dueBox("told " + d[0], flow, element, 6, 6, d[1], 7);
        }
    }

    private static void untoldWidth() {
        Check.sentence("else as its text in one line with border and padding (at least these)");
        LineFlow flow = rootFlex();
        int element = Check.element(flow, 0, Check.BORDER, 2, Check.PADDING, 3);
        int next = Check.piece(flow, 0);
        flow.lay(20);
        Check.dueBox("no text", flow, element, 0, 0, 10, 10);
        int text = Check.text(flow, element, " ab cd ");
        flow.set(text, Check.SIZE, 2);
        flow.lay(20);
        Check.due("wider than the flex", flow.box(element, 2), 29);
        Check.due("the next one", flow.box(next, 0), 29);
        flow.set(element, Check.SIZE, 3);
        flow.lay(20);
        Check.due("by its own size", flow.box(element, 2), 67);
        int[][] due = {{0, 10}, {9, 10}, {10, 10}, {11, 11}, {1000, 10}};
        for (int[] d : due) {
            flow.set(element, Check.WIDTH, d[0]);
            flow.lay(20);
            Check.due("told " + d[0], flow.box(element, 2), d[1]);
        }
    }

    private static void laidLikeBlock() {
        Check.sentence("others each laid like a BLOCK");
        LineFlow flow = rootFlex();
        int aFloat = Check.element(flow, 0, Check.FLOAT, 2, Check.WIDTH, 9, Check.ALIGN, 2);
        Check.text(flow, aFloat, "ab cd");
        int inline = Check.element(flow, 0, Check.DISPLAY, 1, Check.WIDTH, 6, Check.PADDING, 1);
        int block = Check.element(flow, inline, Check.HEIGHT, 2, Check.MARGIN, 1);
        int flex = Check.element(flow, 0, Check.DISPLAY, 2, Check.WIDTH, 5);
        int piece = Check.piece(flow, flex, Check.MARGIN, 4);
        Check.due("height", flow.lay(60), 16);
        Check.dueBox("its float does not count", flow, aFloat, 0, 0, 9, 14);
        Check.dueWords("lines in it", flow, 1, 0, 1, 7);
        Check.dueBox("an inline one", flow, inline, 9, 0, 6, 6);
        Check.dueBox("a block in it", flow, block, 11, 2, 2, 2);
        Check.dueBox("a flex", flow, flex, 15, 0, 5, 16);
        Check.dueBox("a piece in it", flow, piece, 19, 4, 8, 8);
    }

    private static void height() {
        Check.sentence("HEIGHT: that told, else the highest one with its margins");
        LineFlow flow = new LineFlow();
        int flex = Check.element(flow, 0, Check.DISPLAY, 2);
        Check.due("nothing in it", flow.lay(40), 0);
        int first = Check.element(flow, flex, Check.HEIGHT, 6, Check.MARGIN, 3);
        Check.due("one", flow.lay(40), 12);
        int second = Check.piece(flow, flex, Check.HEIGHT, 11);
        Check.due("the first is higher with its margins", flow.lay(40), 12);
        flow.set(second, Check.HEIGHT, 12);
        Check.due("both the same", flow.lay(40), 12);
        flow.set(second, Check.HEIGHT, 13);
        Check.due("the second is higher", flow.lay(40), 13);
        for (int h : new int[] {0, 12, 14, 400}) {
            flow.set(flex, Check.HEIGHT, h);
            Check.due("told " + h, flow.lay(40), h);
        }
        Check.dueBox("what is in it stays so", flow, first, 3, 3, 0, 6);
        Check.having(flow, flex, Check.HEIGHT, 9, Check.BORDER, 2, Check.PADDING, 3);
        Check.due("at least border and padding", flow.lay(40), 10);
        flow.set(flex, Check.HEIGHT, NONE);
        Check.due("with border and padding", flow.lay(40), 23);
    }

    private static void asBlock() {
        Check.sentence("BLOCKS (ELEMENTS with DISPLAY block or flex)");
        LineFlow flow = new LineFlow();
        Check.text(flow, 0, "a");
        int flex = Check.element(flow, 0, Check.DISPLAY, 2, Check.MARGIN, 4);
        Check.piece(flow, flex);
        Check.text(flow, 0, "b");
        Check.due("height", flow.lay(40), 7 + 4 + 8 + 4 + 7);
        Check.dueBox("the flex", flow, flex, 4, 11, 32, 8);
        flow.set(flex, Check.WIDTH, 1050);
        flow.lay(40);
        Check.dueBox("a share", flow, flex, 4, 11, 20, 8);
    }

    private static void noneJoin() {
        Check.sentence("each with its margin around: none joins");
        LineFlow flow = rootFlex();
        int first = Check.element(flow, 0, Check.WIDTH, 30, Check.MARGIN, 2);
        int in = Check.element(flow, first, Check.MARGIN, 5, Check.HEIGHT, 1);
        int second = Check.element(flow, 0, Check.WIDTH, 3, Check.MARGIN, 4);
        Check.due("height", flow.lay(60), 2 + 5 + 1 + 5 + 2);
        Check.dueBox("first", flow, first, 2, 2, 30, 11);
        Check.dueBox("in it", flow, in, 7, 7, 20, 1);
        Check.dueBox("both margins between", flow, second, 38, 4, 3, 0);
    }

    public static void main(String[] args) {
        leftOut();
        pieces();
        sideBySide();
        beyond();
        toldWidth();
        untoldWidth();
        laidLikeBlock();
        height();
        asBlock();
        noneJoin();
        Check.finish();
    }
}
