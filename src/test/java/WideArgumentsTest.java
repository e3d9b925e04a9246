/** Arguments far beyond all limits, and just at them, in an empty, a built and a laid tree: refused, never thrown. */
public final class WideArgumentsTest {
    private static final int[] WIDE = {Integer.MIN_VALUE, Integer.MIN_VALUE + 1, -65536, -1001, -401, -61, -3, -2, 61, 401,
        1101, 65536, 1 << 24, 1 << 30, Integer.MAX_VALUE - 1, Integer.MAX_VALUE};

    private static LineFlow built() {
        LineFlow flow = new LineFlow();
        int block = Check.element(flow, 0, Check.MARGIN, 50, Check.BORDER, 9, Check.PADDING, 50);
        Check.text(flow, block, "a block's words");
        Check.floating(flow, block, 2, 400, 400, 50);
        Check.piece(flow, block, Check.WIDTH, 1100, Check.HEIGHT, 400);
        Check.breakIn(flow, block, Check.SIZE, 4);
        int row = Check.element(flow, 0, Check.DISPLAY, 2);
        Check.text(flow, Check.element(flow, row, Check.WIDTH, 1000), "a row's words");
        Check.tape(flow, "on the tape");
        return flow;
    }

    private static void whole(String state, LineFlow flow, int wide) {
        String at = state + " with " + wide + ": ";
        Check.due(at + "end", flow.end(wide), LineFlow.NONE);
        Check.due(at + "node in it", flow.node(wide, 0), LineFlow.NONE);
        Check.due(at + "node of that kind", flow.node(0, wide), LineFlow.NONE);
        Check.due(at + "text", flow.text(wide), LineFlow.NONE);
        Check.due(at + "lay", flow.lay(wide), wide == 61 ? flow.box(0, 3) : LineFlow.NONE);
        Check.due(at + "line", flow.line(wide), LineFlow.NONE);
        Check.due(at + "margin above", flow.margin(wide, false), LineFlow.NONE);
        Check.due(at + "margin below", flow.margin(wide, true), LineFlow.NONE);
    }

    private static void part(String state, LineFlow flow, int wide) {
        String at = state + " with " + wide + ": ";
        Check.due(at + "set it", flow.set(wide, 0, 0), -2);
        Check.due(at + "set that", flow.set(0, wide, 0), -2);
        Check.due(at + "box of it", flow.box(wide, 0), LineFlow.NONE);
        Check.due(at + "that of a box", flow.box(0, wide), LineFlow.NONE);
        Check.due(at + "word", flow.word(wide, 0), LineFlow.NONE);
        Check.due(at + "that of a word", flow.word(0, wide), LineFlow.NONE);
    }

    private static void value(String state, LineFlow flow, int wide) {
        for (int what = 0; what < 9; what++) {
            boolean length = (what == Check.WIDTH || what == Check.HEIGHT) && wide == 61;
            Check.due(state + ": set(0, " + what + ", " + wide + ")", flow.set(0, what, wide), length ? LineFlow.NONE : -2);
            if (length) {
                flow.set(0, what, LineFlow.NONE);
            }
        }
    }

    private static void feedWide() {
        LineFlow flow = new LineFlow();
        for (int i = 0; i < 6; i++) {
            flow.feed(Integer.MIN_VALUE, Integer.MAX_VALUE, -1, 0, 1);
        }
        int text = flow.node(0, 1);
        Check.due("bytes of every sign", flow.text(text), 120);
        Check.due("are one word, 4 wide each", flow.line(0), 480);
        Check.due("laid", flow.lay(400), 7);
        Check.due("words", flow.words(), 1);
    }

    private static void state(String name, boolean laid, boolean empty) {
        for (int wide : WIDE) {
            LineFlow flow = empty ? new LineFlow() : built();
            if (laid) {
                flow.lay(200);
            }
            part(name, flow, wide);
            value(name, flow, wide);
            whole(name, flow, wide);
        }
    }

    public static void main(String[] args) {
        state("an empty tree", false, true);
        state("an empty tree, laid", true, true);
        state("a built tree", false, false);
        state("a built tree, laid", true, false);
        feedWide();
        Check.finish();
    }
}
