/** Promises 8, 9 and 13: blocks below one another, and margins that join. */
public final class BlockTest {
    private static final int NONE = LineFlow.NONE;

    private static void rootWidth() {
        LineFlow flow = new LineFlow();
        for (int w : new int[] {-1, 0, 19, 401, Integer.MIN_VALUE, Integer.MAX_VALUE}) {
            Check.due("lay(" + w + ")", flow.lay(w), NONE);
            Check.dueNoBox("lay(" + w + ")", flow, 0);
        }
        Check.due("lay(20)", flow.lay(20), 0);
        Check.due("lay(400)", flow.lay(400), 0);
        Check.due("lay(401)", flow.lay(401), NONE);
        Check.dueBox("as laid latest", flow, 0, 0, 0, 400, 0);
        Check.having(flow, 0, Check.WIDTH, 33, Check.MARGIN, 7);
        flow.lay(60);
        Check.dueBox("its width and margin do not count", flow, 0, 0, 0, 60, 0);
        Check.having(flow, 0, Check.BORDER, 9, Check.PADDING, 50);
        Check.due("as wide as told, with frame", flow.lay(20), 118);
        Check.dueBox("as wide as told", flow, 0, 0, 0, 20, 118);
        int in = Check.element(flow, 0);
        flow.lay(20);
        Check.dueBox("0 wide within", flow, in, 59, 59, 0, 0);
    }

    private static void boxes() {
        LineFlow flow = new LineFlow();
        int element = Check.element(flow, 0);
        int gone = Check.element(flow, 0, Check.DISPLAY, 3);
        int inGone = Check.element(flow, gone, Check.HEIGHT, 5);
        int pieceInGone = Check.piece(flow, gone);
        Check.text(flow, inGone, "ab");
        int inline = Check.element(flow, 0, Check.DISPLAY, 1);
        int inInline = Check.element(flow, inline, Check.HEIGHT, 30, Check.FLOAT, 1);
        int text = Check.text(flow, inInline, "ab");
        int aBreak = Check.breakIn(flow, 0);
        int piece = Check.piece(flow, inInline);
        int gonePiece = Check.piece(flow, 0, Check.DISPLAY, 3);
        Check.due("height", flow.lay(40), 8);
        for (int n : new int[] {gone, inGone, pieceInGone, inline, inInline, text, aBreak, gonePiece}) {
            Check.dueNoBox("none", flow, n);
        }
        Check.dueBox("an empty block", flow, element, 0, 0, 40, 0);
        Check.dueBox("a piece within inline elements", flow, piece, 8, 0, 8, 8);
        Check.dueWords("none of what is gone", flow, 0, 1);
        Check.due("box of -1", flow.box(-1, 0), NONE);
        Check.due("box of none", flow.box(12, 0), NONE);
        Check.due("what -1", flow.box(0, -1), NONE);
        Check.due("what 4", flow.box(0, 4), NONE);
        Check.having(flow, element, Check.HEIGHT, 9, Check.DISPLAY, 3);
        int late = Check.element(flow, 0);
        Check.dueNoBox("came later", flow, late);
        Check.dueBox("as it was laid", flow, element, 0, 0, 40, 0);
        flow.lay(40);
        Check.dueNoBox("gone now", flow, element);
    }

    private static void widths() {
        LineFlow flow = new LineFlow();
        Check.having(flow, 0, Check.BORDER, 1, Check.PADDING, 2);
        int plain = Check.element(flow, 0, Check.MARGIN, 5);
        int told = Check.element(flow, 0, Check.WIDTH, 90, Check.MARGIN, 4);
        int share = Check.element(flow, 0, Check.WIDTH, 1033);
        int whole = Check.element(flow, 0, Check.WIDTH, 1100, Check.MARGIN, 3);
        int nothing = Check.element(flow, 0, Check.WIDTH, 0, Check.BORDER, 2, Check.PADDING, 3);
        int noShare = Check.element(flow, 0, Check.WIDTH, 1000);
        int narrow = Check.element(flow, 0, Check.MARGIN, 50, Check.PADDING, 1);
        int inWide = Check.element(flow, told, Check.WIDTH, 1050);
        flow.lay(56);
        Check.due("inner width without margins", flow.box(plain, 2), 40);
        Check.due("x with margin", flow.box(plain, 0), 8);
        Check.due("y with margin", flow.box(plain, 1), 8);
        Check.due("as told", flow.box(told, 2), 90);
        Check.due("a share, down", flow.box(share, 2), 16);
        Check.due("share of 100", flow.box(whole, 2), 50);
        Check.due("x of share of 100", flow.box(whole, 0), 6);
        Check.due("at least its frame", flow.box(nothing, 2), 10);
        Check.due("share of 0", flow.box(noShare, 2), 0);
        Check.due("margins take all", flow.box(narrow, 2), 2);
        Check.due("a share of what it lies in", flow.box(inWide, 2), 45);
    }

    private static void heights() {
        LineFlow flow = new LineFlow();
        int told = Check.element(flow, 0, Check.HEIGHT, 20, Check.PADDING, 3);
        int low = Check.element(flow, 0, Check.HEIGHT, 4, Check.BORDER, 2, Check.PADDING, 3);
        int inLow = Check.element(flow, low, Check.HEIGHT, 40);
        int own = Check.element(flow, 0, Check.PADDING, 5);
        int inOwn = Check.element(flow, own, Check.HEIGHT, 6, Check.MARGIN, 2);
        Check.due("height", flow.lay(50), 20 + 10 + 20);
        Check.dueBox("told", flow, told, 0, 0, 50, 20);
        Check.dueBox("at least its frame", flow, low, 0, 20, 50, 10);
        Check.dueBox("out of what is told", flow, inLow, 5, 25, 40, 40);
        Check.dueBox("what is in it", flow, own, 0, 30, 50, 20);
        Check.dueBox("its margins do not join", flow, inOwn, 7, 37, 36, 6);
        flow.set(0, Check.HEIGHT, 9);
        Check.due("the root's as told", flow.lay(50), 9);
        flow.set(0, Check.HEIGHT, 0);
        flow.set(0, Check.BORDER, 3);
        Check.due("the root's frame at least", flow.lay(50), 6);
    }

    private static void betweenBlocks() {
        LineFlow flow = new LineFlow();
        int first = Check.element(flow, 0, Check.HEIGHT, 10, Check.MARGIN, 6);
        int second = Check.element(flow, 0, Check.HEIGHT, 10, Check.MARGIN, 4);
        int text = Check.text(flow, 0, "");
        int third = Check.element(flow, 0, Check.HEIGHT, 10, Check.MARGIN, 3);
        int empty = Check.element(flow, 0, Check.MARGIN, 2);
        int fourth = Check.element(flow, 0, Check.HEIGHT, 1, Check.MARGIN, 5);
        Check.due("height", flow.lay(60), 6 + 10 + 6 + 10 + 4 + 3 + 10 + 3 + 5 + 1 + 5);
        Check.due("not joined with the root", flow.box(first, 1), 6);
        Check.due("the greater one", flow.box(second, 1), 22);
        Check.due("lines of nothing part them", flow.box(third, 1), 39);
        Check.due("an empty one", flow.box(empty, 1), 52);
        Check.due("TOP and BOTTOM count each", flow.box(fourth, 1), 57);
        Check.dueNoBox("text", flow, text);
    }

    private static void joins() {
        LineFlow flow = new LineFlow();
        int outer = Check.element(flow, 0, Check.MARGIN, 5);
        int gone = Check.element(flow, outer, Check.DISPLAY, 3, Check.MARGIN, 40);
        int first = Check.element(flow, outer, Check.MARGIN, 2);
        int inFirst = Check.element(flow, first, Check.MARGIN, 9, Check.HEIGHT, 3);
        int last = Check.element(flow, outer, Check.MARGIN, 7, Check.DISPLAY, 2);
        int inLast = Check.element(flow, last, Check.MARGIN, 20, Check.HEIGHT, 1);
        int goneLast = Check.element(flow, outer, Check.DISPLAY, 3, Check.MARGIN, 40);
        Check.dueMargins("joined", flow, outer, 9, 7);
        Check.dueMargins("joined", flow, first, 9, 9);
        Check.dueMargins("a flex joins not what is in it", flow, last, 7, 7);
        Check.dueMargins("in a flex", flow, inLast, 20, 20);
        Check.dueMargins("gone", flow, gone, NONE, NONE);
        Check.due("height", flow.lay(60), 9 + 3 + 9 + 41 + 7);
        Check.dueBox("outer", flow, outer, 5, 9, 50, 53);
        Check.dueBox("first", flow, first, 7, 9, 46, 3);
        Check.dueBox("in first", flow, inFirst, 16, 9, 28, 3);
        Check.dueBox("last", flow, last, 12, 21, 36, 41);
        Check.dueBox("in last", flow, inLast, 32, 41, 0, 1);
        Check.dueNoBox("gone", flow, goneLast);
        flow.set(outer, Check.HEIGHT, 53);
        Check.dueMargins("a height that is told", flow, outer, 9, 5);
        flow.set(outer, Check.PADDING, 1);
        Check.dueMargins("padding", flow, outer, 5, 5);
        flow.set(outer, Check.PADDING, 0);
        flow.set(outer, Check.BORDER, 1);
        Check.dueMargins("border", flow, outer, 5, 5);
        flow.set(outer, Check.BORDER, 0);
        flow.set(outer, Check.HEIGHT, NONE);
        flow.set(0, Check.DISPLAY, 2);
        Check.dueMargins("in a flex", flow, outer, 5, 5);
        Check.dueMargins("deeper in a flex", flow, first, 9, 9);
    }

    private static void joinedWhicheverIsGreater() {
        LineFlow flow = new LineFlow();
        int outer = Check.element(flow, 0, Check.MARGIN, 8);
        int in = Check.element(flow, outer, Check.MARGIN, 3, Check.HEIGHT, 2);
        Check.dueMargins("the lesser within", flow, outer, 8, 8);
        Check.due("height", flow.lay(40), 18);
        Check.dueBox("outer", flow, outer, 8, 8, 24, 2);
        Check.dueBox("in", flow, in, 11, 8, 18, 2);
    }

    private static void whatKeepsApart() {
        LineFlow flow = new LineFlow();
        int outer = Check.element(flow, 0, Check.MARGIN, 1);
        Check.text(flow, outer, "");
        int in = Check.element(flow, outer, Check.MARGIN, 6, Check.HEIGHT, 2);
        int aFloat = Check.element(flow, outer, Check.FLOAT, 1);
        Check.dueMargins("a text first, a float last", flow, outer, 1, 1);
        Check.due("height", flow.lay(40), 1 + 6 + 2 + 6 + 1);
        Check.dueBox("in", flow, in, 7, 7, 26, 2);
        Check.dueBox("float", flow, aFloat, 1, 15, 0, 0);
    }

    private static void marginOfOthers() {
        LineFlow flow = new LineFlow();
        int inline = Check.element(flow, 0, Check.DISPLAY, 1, Check.MARGIN, 1);
        int aFloat = Check.element(flow, 0, Check.FLOAT, 2, Check.MARGIN, 2);
        int inInline = Check.element(flow, inline, Check.MARGIN, 3);
        int deeper = Check.element(flow, inInline, Check.MARGIN, 4);
        int inFloat = Check.element(flow, aFloat, Check.MARGIN, 5);
        int deepInFloat = Check.element(flow, inFloat, Check.MARGIN, 6);
        int text = Check.text(flow, 0, "");
        int aBreak = Check.breakIn(flow, 0);
        int piece = Check.piece(flow, 0, Check.MARGIN, 3);
        for (int n : new int[] {-1, 0, inline, aFloat, text, aBreak, piece, piece + 1, 60}) {
            Check.dueMargins("none such", flow, n, NONE, NONE);
        }
        Check.dueMargins("in an inline one", flow, inInline, 3, 3);
        Check.dueMargins("deep in an inline one", flow, deeper, 4, 4);
        Check.dueMargins("in a float", flow, inFloat, 6, 6);
        Check.dueMargins("deep in a float", flow, deepInFloat, 6, 6);
        flow.lay(50);
        Check.due("a float joins nothing", flow.box(aFloat, 3), 12);
        Check.due("in a float", flow.box(inFloat, 1), 2 + 6);
        Check.due("deep in a float", flow.box(deepInFloat, 1), 2 + 6);
    }

    private static void oneEndJoins() {
        LineFlow flow = new LineFlow();
        int below = Check.element(flow, 0, Check.MARGIN, 1);
        Check.text(flow, below, "a");
        int last = Check.element(flow, below, Check.MARGIN, 4, Check.HEIGHT, 2);
        int above = Check.element(flow, 0, Check.MARGIN, 1);
        int first = Check.element(flow, above, Check.MARGIN, 6, Check.HEIGHT, 2);
        Check.text(flow, above, "b");
        Check.dueMargins("BOTTOM alone", flow, below, 1, 4);
        Check.dueMargins("TOP alone", flow, above, 6, 1);
        Check.due("height", flow.lay(40), 1 + 13 + 6 + 15 + 1);
        Check.dueBox("BOTTOM alone", flow, below, 1, 1, 38, 13);
        Check.dueBox("last", flow, last, 5, 12, 30, 2);
        Check.dueBox("TOP alone", flow, above, 1, 20, 38, 15);
        Check.dueBox("first", flow, first, 7, 20, 26, 2);
    }

    private static void deepest() {
        LineFlow flow = new LineFlow();
        for (int deep = 1; deep <= 12; deep++) {
            Check.element(flow, deep - 1, Check.MARGIN, deep % 2, Check.PADDING, deep % 3);
        }
        Check.having(flow, 12, Check.HEIGHT, 5, Check.MARGIN, 7);
        Check.dueMargins("12 deep", flow, 12, 7, 7);
        Check.dueMargins("10 deep, padding within", flow, 9, 1, 1);
        Check.due("height", flow.lay(400), 5 + 14 + 2 * (1 + 2 + 1 + 2 + 1 + 2 + 1 + 2) + 2 * 6);
        Check.due("x of the deepest", flow.box(12, 0), 12 + 6 + 7);
        Check.due("width of the deepest", flow.box(12, 2), 400 - 50);
        Check.due("height of the deepest", flow.box(12, 3), 5);
    }

    public static void main(String[] args) {
        rootWidth();
        boxes();
        widths();
        heights();
        betweenBlocks();
        joins();
        joinedWhicheverIsGreater();
        whatKeepsApart();
        marginOfOthers();
        oneEndJoins();
        deepest();
        Check.finish();
    }
}
