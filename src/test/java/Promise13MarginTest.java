/** Promise 13: TOP and BOTTOM of a block, as it is now. */
public final class Promise13MarginTest {
    private static final int NONE = LineFlow.NONE;

    private static void own() {
        Check.sentence("TOP of an ELEMENT whose DISPLAY is block or flex and whose FLOAT is 0, or, below, BOTTOM");
        LineFlow flow = new LineFlow();
        int block = Check.element(flow, 0);
        int flex = Check.element(flow, 0, Check.DISPLAY, 2);
        for (int m : new int[] {0, 1, 50}) {
            flow.set(block, Check.MARGIN, m);
            flow.set(flex, Check.MARGIN, m);
            Check.dueMargins("a block", flow, block, m, m);
            Check.dueMargins("a flex", flow, flex, m, m);
        }
    }

    private static void noneSuch() {
        Check.sentence("NONE if it is none such");
        LineFlow flow = new LineFlow();
        int element = Check.element(flow, 0, Check.MARGIN, 3);
        int text = Check.text(flow, 0, "");
        int aBreak = Check.breakIn(flow, 0, Check.MARGIN, 3);
        int piece = Check.piece(flow, 0, Check.MARGIN, 3);
        for (int n : new int[] {text, aBreak, piece, 5, -1, 59, 60, Integer.MIN_VALUE, Integer.MAX_VALUE}) {
            Check.dueMargins("no element", flow, n, NONE, NONE);
        }
        flow.set(element, Check.DISPLAY, 1);
        Check.dueMargins("inline", flow, element, NONE, NONE);
        flow.set(element, Check.DISPLAY, 3);
        Check.dueMargins("none", flow, element, NONE, NONE);
        flow.set(element, Check.DISPLAY, 0);
        Check.dueMargins("block again", flow, element, 3, 3);
        for (int side = 1; side <= 2; side++) {
            flow.set(element, Check.FLOAT, side);
            Check.dueMargins("float " + side, flow, element, NONE, NONE);
        }
        flow.set(element, Check.DISPLAY, 2);
        Check.dueMargins("a flex that floats", flow, element, NONE, NONE);
    }

    private static void notRoot() {
        Check.sentence("(not THE ROOT)");
        LineFlow flow = new LineFlow();
        flow.set(0, Check.MARGIN, 3);
        Check.dueMargins("a block", flow, 0, NONE, NONE);
        flow.set(0, Check.DISPLAY, 2);
        Check.dueMargins("a flex", flow, 0, NONE, NONE);
    }

    private static void joined() {
        Check.sentence("TOP of a BLOCK is its margin, or TOP of the first thing in it, if that is greater; BOTTOM likewise"
                + " by the last thing");
        LineFlow flow = new LineFlow();
        int outer = Check.element(flow, 0, Check.MARGIN, 5);
        int first = Check.element(flow, outer, Check.MARGIN, 6);
        int last = Check.element(flow, outer, Check.MARGIN, 7);
        Check.dueMargins("both greater", flow, outer, 6, 7);
        flow.set(first, Check.MARGIN, 5);
        flow.set(last, Check.MARGIN, 4);
        Check.dueMargins("the same, and less", flow, outer, 5, 5);
        int deep = Check.element(flow, last, Check.MARGIN, 50);
        Check.dueMargins("deeper", flow, outer, 5, 50);
        Check.dueMargins("deeper", flow, last, 50, 50);
        flow.set(deep, Check.DISPLAY, 3);
        Check.dueMargins("without what is none", flow, last, 4, 4);
    }

    private static void conditions() {
        Check.sentence("that thing a BLOCK, its own border and padding 0, its display block; if its height is not told, too");
        LineFlow flow = new LineFlow();
        int outer = Check.element(flow, 0, Check.MARGIN, 2);
        int in = Check.element(flow, outer, Check.MARGIN, 5);
        Check.dueMargins("joined", flow, outer, 5, 5);
        int[][] keeps = {{Check.BORDER, 1, 2, 2}, {Check.PADDING, 1, 2, 2}, {Check.DISPLAY, 2, 2, 2},
            {Check.HEIGHT, 0, 5, 2}, {Check.HEIGHT, 9, 5, 2}, {Check.WIDTH, 0, 5, 5}, {Check.SIZE, 2, 5, 5}};
        for (int[] k : keeps) {
            int was = flow.set(outer, k[0], k[1]);
            Check.dueMargins("the outer one's " + k[0] + " is " + k[1], flow, outer, k[2], k[3]);
            flow.set(outer, k[0], was);
        }
        int[][] thing = {{Check.FLOAT, 1, 2, 2}, {Check.DISPLAY, 1, 2, 2}, {Check.DISPLAY, 2, 5, 5},
            {Check.DISPLAY, 3, 2, 2}, {Check.PADDING, 1, 5, 5}, {Check.HEIGHT, 3, 5, 5}};
        for (int[] k : thing) {
            int was = flow.set(in, k[0], k[1]);
            Check.dueMargins("the thing's " + k[0] + " is " + k[1], flow, outer, k[2], k[3]);
            flow.set(in, k[0], was);
        }
        flow.set(0, Check.DISPLAY, 2);
        Check.dueMargins("it lies in a flex", flow, outer, 2, 2);
    }

    private static void othersFirst() {
        Check.sentence("the first thing in it, that thing a BLOCK: a TEXT of no bytes is a thing");
        LineFlow flow = new LineFlow();
        int outer = Check.element(flow, 0, Check.MARGIN, 2);
        flow.node(outer, 1);
        Check.element(flow, outer, Check.MARGIN, 5);
        Check.dueMargins("a text first", flow, outer, 2, 5);
        int piece = Check.piece(flow, outer, Check.MARGIN, 40);
        Check.dueMargins("a piece last", flow, outer, 2, 2);
        flow.set(piece, Check.DISPLAY, 3);
        Check.dueMargins("a piece that is none last", flow, outer, 2, 5);
    }

    private static void whereverItLies() {
        Check.sentence("wherever it lies");
        LineFlow flow = new LineFlow();
        int[][] places = {{Check.DISPLAY, 0}, {Check.DISPLAY, 2}, {Check.DISPLAY, 1}, {Check.DISPLAY, 3}, {Check.FLOAT, 1}};
        for (int[] p : places) {
            int place = Check.element(flow, 0, p[0], p[1], Check.MARGIN, 30);
            int block = Check.element(flow, place, Check.MARGIN, 3);
            int in = Check.element(flow, block, Check.MARGIN, 4);
            boolean joins = p[0] == Check.FLOAT || p[1] == 0;
            Check.dueMargins("in " + p[0] + " of " + p[1], flow, block, joins ? 4 : 3, joins ? 4 : 3);
            Check.dueMargins("deeper in " + p[0] + " of " + p[1], flow, in, 4, 4);
        }
    }

    private static void asItIsNow() {
        Check.sentence("as it is now");
        LineFlow flow = new LineFlow();
        int outer = Check.element(flow, 0, Check.MARGIN, 2);
        flow.lay(40);
        int in = Check.element(flow, outer, Check.MARGIN, 5);
        Check.dueMargins("a node that came later", flow, outer, 5, 5);
        flow.set(in, Check.MARGIN, 7);
        Check.dueMargins("a margin that came later", flow, outer, 7, 7);
        Check.dueBox("what is laid stays", flow, outer, 2, 2, 36, 0);
    }

    private static void deepest() {
        Check.sentence("none more than 12 deep: TOP and BOTTOM by the deepest one");
        LineFlow flow = new LineFlow();
        for (int deep = 1; deep <= 12; deep++) {
            Check.element(flow, deep - 1, Check.MARGIN, deep);
        }
        for (int deep = 1; deep <= 12; deep++) {
            Check.dueMargins(deep + " deep", flow, deep, 12, 12);
        }
    }

    public static void main(String[] args) {
        own();
        noneSuch();
        notRoot();
        joined();
        conditions();
        othersFirst();
        whereverItLies();
        asItIsNow();
        deepest();
        Check.finish();
    }
}
