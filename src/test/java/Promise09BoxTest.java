/** Promise 9: a node's box, as it was laid latest. */
public final class Promise09BoxTest {
    private static final int NONE = LineFlow.NONE;

    private static void whats() {
        Check.sentence("what 0: x, 1: y, 2: width, 3: height");
        LineFlow flow = new LineFlow();
        flow.set(0, Check.PADDING, 1);
        int block = Check.element(flow, 0, Check.MARGIN, 2, Check.WIDTH, 11, Check.HEIGHT, 12);
        int left = Check.floating(flow, 0, 1, 5, 6, 3);
        int piece = Check.piece(flow, 0, Check.WIDTH, 7, Check.HEIGHT, 9);
        int flex = Check.element(flow, 0, Check.DISPLAY, 2, Check.HEIGHT, 4);
        flow.lay(40);
        Check.dueBox("root", flow, 0, 0, 0, 40, 34);
        Check.dueBox("block", flow, block, 3, 3, 11, 12);
        Check.dueBox("float", flow, left, 4, 20, 5, 6);
        Check.dueBox("piece", flow, piece, 12, 17, 7, 9);
        Check.dueBox("flex", flow, flex, 1, 29, 38, 4);
    }

    private static void anotherWhat() {
        Check.sentence("NONE for another what");
        LineFlow flow = new LineFlow();
        flow.lay(40);
        for (int what : new int[] {-1, 4, 5, Integer.MIN_VALUE, Integer.MAX_VALUE}) {
            Check.due("what " + what, flow.box(0, what), NONE);
        }
    }

    private static void noSuchNode() {
        Check.sentence("NONE if it had none: there is no such NODE");
        LineFlow flow = new LineFlow();
        flow.node(0, 0);
        flow.lay(40);
        for (int n : new int[] {-1, 2, 59, 60, Integer.MIN_VALUE, Integer.MAX_VALUE}) {
            Check.dueNoBox("no node", flow, n);
        }
    }

    private static void nothingLaid() {
        Check.sentence("(or nothing was laid)");
        LineFlow flow = new LineFlow();
        flow.node(0, 0);
        flow.node(0, 3);
        flow.lay(19);
        for (int n = 0; n < 3; n++) {
            Check.dueNoBox("not laid", flow, n);
        }
        flow.lay(20);
        flow.clear();
        Check.dueNoBox("cleared", flow, 0);
    }

    private static void cameLater() {
        Check.sentence("As it was laid latest: NONE if it had none");
        LineFlow flow = new LineFlow();
        flow.lay(40);
        int late = Check.element(flow, 0, Check.HEIGHT, 3);
        int piece = Check.piece(flow, 0);
        Check.dueNoBox("came later", flow, late);
        Check.dueNoBox("came later", flow, piece);
        Check.dueBox("the root", flow, 0, 0, 0, 40, 0);
        flow.lay(40);
        Check.dueBox("laid now", flow, late, 0, 0, 40, 3);
        Check.dueBox("laid now", flow, piece, 0, 3, 8, 8);
    }

    private static void asLaid() {
        Check.sentence("As it was laid latest");
        LineFlow flow = new LineFlow();
        int block = Check.element(flow, 0, Check.HEIGHT, 3);
        int gone = Check.element(flow, 0, Check.DISPLAY, 3);
        flow.lay(40);
        flow.set(block, Check.DISPLAY, 3);
        flow.set(gone, Check.DISPLAY, 0);
        Check.dueBox("has none now, had one", flow, block, 0, 0, 40, 3);
        Check.dueNoBox("has one now, had none", flow, gone);
        flow.lay(50);
        Check.dueNoBox("has none", flow, block);
        Check.dueBox("has one", flow, gone, 0, 0, 50, 0);
    }

    private static void othersHaveNone() {
        Check.sentence("of an inline ELEMENT, a TEXT or a BREAK, too");
        LineFlow flow = new LineFlow();
        int inline = Check.element(flow, 0, Check.DISPLAY, 1, Check.WIDTH, 30, Check.HEIGHT, 30);
        int text = Check.text(flow, inline, "ab");
        int aBreak = Check.breakIn(flow, 0);
        int within = Check.element(flow, inline, Check.HEIGHT, 9);
        int aFloat = Check.floating(flow, inline, 1, 4, 4, 0);
        int flex = Check.element(flow, within, Check.DISPLAY, 2);
        int piece = Check.piece(flow, flex);
        flow.lay(40);
        for (int n : new int[] {inline, text, aBreak, within, aFloat, flex}) {
            Check.dueNoBox("none", flow, n);
        }
        Check.dueBox("a piece within them has one", flow, piece, 8, 0, 8, 8);
        flow.set(0, Check.DISPLAY, 2);
        flow.lay(40);
        Check.dueNoBox("a break in a flex", flow, aBreak);
        Check.dueNoBox("a text in a block", flow, text);
    }

    private static void none() {
        Check.sentence("and what lies in one with DISPLAY none");
        LineFlow flow = new LineFlow();
        int gone = Check.element(flow, 0, Check.DISPLAY, 3);
        int block = Check.element(flow, gone, Check.HEIGHT, 5);
        int deep = Check.element(flow, block, Check.HEIGHT, 5);
        int aFloat = Check.floating(flow, gone, 1, 4, 4, 0);
        int piece = Check.piece(flow, gone);
        int flex = Check.element(flow, gone, Check.DISPLAY, 2);
        int inFlex = Check.piece(flow, flex);
        int gonePiece = Check.piece(flow, 0, Check.DISPLAY, 3);
        Check.due("height", flow.lay(40), 0);
        for (int n : new int[] {gone, block, deep, aFloat, piece, flex, inFlex, gonePiece}) {
            Check.dueNoBox("none", flow, n);
        }
        flow.set(gone, Check.DISPLAY, 0);
        flow.lay(40);
        Check.dueBox("laid now", flow, deep, 0, 0, 40, 5);
        flow.set(gone, Check.DISPLAY, 3);
        flow.lay(40);
        Check.dueNoBox("none again", flow, deep);
    }

    public static void main(String[] args) {
        whats();
        anotherWhat();
        noSuchNode();
        nothingLaid();
        cameLater();
        asLaid();
        othersHaveNone();
        none();
        Check.finish();
    }
}
