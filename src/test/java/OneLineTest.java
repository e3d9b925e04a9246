/** Promise 12: an element's text in one line. */
public final class OneLineTest {
    private static final int NONE = LineFlow.NONE;

    private static void widths() {
        LineFlow flow = new LineFlow();
        int a = Check.element(flow, 0, Check.SIZE, 2);
        int text = Check.text(flow, a, " \nab ");
        int aBreak = Check.breakIn(flow, a);
        int piece = Check.piece(flow, a);
        int b = Check.element(flow, a, Check.DISPLAY, 3, Check.SIZE, 4);
        int inB = Check.text(flow, b, "\n im");
        flow.set(inB, Check.SIZE, 3);
        Check.text(flow, a, "c");
        int c = Check.element(flow, 0, Check.FLOAT, 1);
        Check.text(flow, c, " ");
        int d = Check.element(flow, 0, Check.DISPLAY, 2);
        Check.text(flow, d, "d  ");
        Check.due("line of a", flow.line(a), 2 * (8 + 3 + 7 + 4));
        Check.due("line of b", flow.line(b), 4 * 7);
        Check.due("line of c", flow.line(c), 0);
        Check.due("line of d", flow.line(d), 4);
        int glyph = Check.element(flow, c);
        Check.text(flow, glyph, "g");
        Check.due("line of d again", flow.line(d), 4);
        Check.due("no blank of another call", flow.line(glyph), 4);
        Check.tape(flow, "");
        flow.text(glyph + 1);
        Check.due("line of the root", flow.line(0), 8 + 3 + 7 + 4 + 3 + 4);
        for (int n : new int[] {-1, text, aBreak, piece, glyph + 1, glyph + 2, 60, Integer.MIN_VALUE, Integer.MAX_VALUE}) {
            Check.due("line of " + n, flow.line(n), NONE);
        }
        flow.lay(50);
        Check.tape(flow, "mm");
        flow.text(text);
        Check.due("as it is now", flow.line(a), 2 * (10 + 3 + 7 + 4));
        flow.set(a, Check.SIZE, 1);
        Check.due("by the size now", flow.line(a), 10 + 3 + 7 + 4);
    }

    /** A child that comes later may lie earlier in the tree. */
    private static void order() {
        LineFlow flow = new LineFlow();
        int first = Check.element(flow, 0);
        Check.text(flow, 0, " b");
        Check.text(flow, first, "a ");
        Check.due("one run of blanks", flow.line(0), 11);
        Check.text(flow, 0, "c");
        Check.due("no blank, no gap", flow.line(0), 15);
    }

    public static void main(String[] args) {
        widths();
        order();
        Check.finish();
    }
}
