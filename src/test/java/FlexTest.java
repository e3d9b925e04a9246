/** Promises 8 to 10: what stands side by side in a flex. */
public final class FlexTest {
    private static void sideBySide() {
        LineFlow flow = new LineFlow();
        int flex = Check.element(flow, 0, Check.DISPLAY, 2, Check.MARGIN, 2, Check.BORDER, 1, Check.PADDING, 3);
        int text = Check.element(flow, flex, Check.MARGIN, 1, Check.PADDING, 2);
        Check.text(flow, text, " ab cd ");
        int piece = Check.piece(flow, flex, Check.MARGIN, 5, Check.BORDER, 4);
        int gone = Check.element(flow, flex, Check.DISPLAY, 3, Check.WIDTH, 30);
        int gonePiece = Check.piece(flow, flex, Check.DISPLAY, 3);
        Check.text(flow, flex, "own texts are left out");
        Check.breakIn(flow, flex);
        int share = Check.element(flow, flex, Check.WIDTH, 1025, Check.HEIGHT, 3);
        int thin = Check.element(flow, flex, Check.WIDTH, 1, Check.BORDER, 2);
        int inline = Check.element(flow, flex, Check.DISPLAY, 1, Check.WIDTH, 6);
        int inInline = Check.element(flow, inline, Check.HEIGHT, 2, Check.MARGIN, 1);
        Check.due("height", flow.lay(62), 18 + 8 + 4);
        Check.dueBox("flex", flow, flex, 2, 2, 58, 26);
        Check.dueBox("its text in one line", flow, text, 7, 7, 23, 11);
        Check.dueBox("a piece with its margin", flow, piece, 36, 11, 8, 8);
        Check.dueBox("a share of the inner width, down", flow, share, 49, 6, 12, 3);
        Check.dueBox("its frame at least, out of the flex", flow, thin, 61, 6, 4, 4);
        Check.dueBox("laid like a block", flow, inline, 65, 6, 6, 4);
        Check.dueBox("a block in it", flow, inInline, 66, 7, 4, 2);
        Check.dueNoBox("gone", flow, gone);
        Check.dueNoBox("gone", flow, gonePiece);
        Check.dueWords("no words of its own", flow, 9, 9, 20, 9);
    }

    private static void heights() {
        LineFlow flow = new LineFlow();
        int flex = Check.element(flow, 0, Check.DISPLAY, 2, Check.HEIGHT, 5, Check.PADDING, 3);
        int in = Check.piece(flow, flex, Check.HEIGHT, 40, Check.WIDTH, 1050);
        int empty = Check.element(flow, 0, Check.DISPLAY, 2, Check.PADDING, 2);
        Check.due("height", flow.lay(40), 10);
        Check.dueBox("its frame at least", flow, flex, 0, 0, 40, 6);
        Check.dueBox("as high as told", flow, in, 3, 3, 17, 40);
        Check.dueBox("nothing in it", flow, empty, 0, 6, 40, 4);
        flow.set(flex, Check.HEIGHT, 50);
        Check.due("as told", flow.lay(40), 54);
    }

    private static void rootFlex() {
        LineFlow flow = new LineFlow();
        flow.set(0, Check.DISPLAY, 2);
        Check.text(flow, 0, "left out");
        int one = Check.element(flow, 0, Check.FLOAT, 2, Check.SIZE, 3);
        int words = Check.text(flow, one, "ab");
        int two = Check.element(flow, 0, Check.DISPLAY, 2);
        Check.text(flow, two, "cd");
        int deep = Check.element(flow, two, Check.MARGIN, 4, Check.HEIGHT, 1);
        Check.due("height", flow.lay(40), 9);
        Check.dueBox("as wide as by its own size", flow, one, 0, 0, 24, 7);
        Check.dueBox("a flex in a flex", flow, two, 24, 0, 8, 9);
        Check.dueBox("deep", flow, deep, 28, 4, 0, 1);
        Check.dueWords("words", flow, 0, 0);
        Check.due("its text", flow.word(0, 0), words);
    }

    private static void marginsDoNotJoin() {
        LineFlow flow = new LineFlow();
        int flex = Check.element(flow, 0, Check.DISPLAY, 2);
        int item = Check.element(flow, flex, Check.WIDTH, 20, Check.MARGIN, 2);
        int first = Check.element(flow, item, Check.MARGIN, 3);
        int deep = Check.element(flow, first, Check.MARGIN, 5, Check.HEIGHT, 1);
        Check.due("height", flow.lay(40), 2 + 5 + 1 + 5 + 2);
        Check.dueBox("item", flow, item, 2, 2, 20, 11);
        Check.dueBox("not joined with the item", flow, first, 5, 7, 14, 1);
        Check.dueBox("joined", flow, deep, 10, 7, 4, 1);
    }

    private static void inInline() {
        LineFlow flow = new LineFlow();
        int inline = Check.element(flow, 0, Check.DISPLAY, 1);
        int flex = Check.element(flow, inline, Check.DISPLAY, 2);
        Check.text(flow, flex, "a b");
        int item = Check.element(flow, flex, Check.WIDTH, 30);
        Check.text(flow, item, "c");
        Check.due("height", flow.lay(40), 7);
        Check.dueNoBox("as inline there", flow, flex);
        Check.dueNoBox("as inline there", flow, item);
        Check.dueWords("words in a line", flow, 0, 0, 7, 0, 11, 0);
    }

    public static void main(String[] args) {
        sideBySide();
        heights();
        rootFlex();
        marginsDoNotJoin();
        inInline();
        Check.finish();
    }
}
