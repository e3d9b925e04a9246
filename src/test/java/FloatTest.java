/** Promises 8, 9 and 11: floats, and the lines that go round them. */
public final class FloatTest {
    private static void bothSides() {
        LineFlow flow = new LineFlow();
        int left = Check.floating(flow, 0, 1, 6, 8, 2);
        int right = Check.floating(flow, 0, 2, 7, 5, 1);
        Check.text(flow, 0, "abc def ghi jk lm abcdef");
        Check.due("height", flow.lay(50), 21);
        Check.dueBox("left", flow, left, 2, 2, 6, 8);
        Check.dueBox("right", flow, right, 42, 1, 7, 5);
        Check.dueWords("between, below the right one, below both", flow, 10, 0, 25, 0, 10, 7, 23, 7, 32, 7, 0, 14);
        flow.set(0, Check.ALIGN, 2);
        flow.lay(50);
        Check.dueWords("at the right edge there", flow, 14, 0, 29, 0, 21, 7, 34, 7, 43, 7, 26, 14);
    }

    private static void heightOfFloats() {
        LineFlow flow = new LineFlow();
        int block = Check.element(flow, 0, Check.PADDING, 1);
        int left = Check.floating(flow, block, 1, 6, 8, 2);
        int next = Check.element(flow, 0, Check.HEIGHT, 3);
        Check.due("height", flow.lay(30), 14 + 3);
        Check.dueBox("with the float's margins and its own padding", flow, block, 0, 0, 30, 14);
        Check.dueBox("float", flow, left, 3, 3, 6, 8);
        Check.dueBox("next", flow, next, 0, 14, 30, 3);
        flow.set(block, Check.HEIGHT, 4);
        flow.lay(30);
        Check.dueBox("a float of another block does not count", flow, next, 0, 4, 30, 3);
    }

    private static void blocksBehind() {
        LineFlow flow = new LineFlow();
        int first = Check.element(flow, 0, Check.HEIGHT, 5, Check.MARGIN, 3);
        int left = Check.floating(flow, 0, 1, 6, 8, 2);
        int low = Check.element(flow, 0, Check.HEIGHT, 1, Check.MARGIN, 4);
        int after = Check.element(flow, 0, Check.HEIGHT, 1, Check.MARGIN, 20);
        Check.due("height", flow.lay(30), 23 + 1 + 20 + 1 + 20);
        Check.dueBox("first", flow, first, 3, 3, 24, 5);
        Check.dueBox("behind its BOTTOM", flow, left, 2, 13, 6, 8);
        Check.due("not above the float's end", flow.box(low, 1), 23);
        Check.due("the next one", flow.box(after, 1), 44);
        flow.set(low, Check.MARGIN, 13);
        flow.lay(30);
        Check.due("floats alone make lines", flow.box(low, 1), 11 + 13);
    }

    private static void waiting() {
        LineFlow flow = new LineFlow();
        Check.text(flow, 0, "ab ");
        int left = Check.floating(flow, 0, 1, 5, 9, 0);
        int second = Check.floating(flow, 0, 1, 4, 2, 0);
        Check.text(flow, 0, "c defg");
        Check.due("height", flow.lay(25), 16);
        Check.dueBox("waits for the line's end", flow, left, 0, 7, 5, 9);
        Check.dueBox("so does the next", flow, second, 5, 7, 4, 2);
        Check.dueWords("round both", flow, 0, 0, 11, 0, 9, 7);
        LineFlow broken = new LineFlow();
        Check.text(broken, 0, "ab");
        int waits = Check.floating(broken, 0, 2, 5, 9, 0);
        Check.breakIn(broken, 0);
        Check.text(broken, 0, "c");
        int last = Check.floating(broken, 0, 2, 5, 9, 0);
        Check.due("height", broken.lay(25), 7 + 7 + 9);
        Check.dueBox("the break ends the line", broken, waits, 20, 7, 5, 9);
        Check.dueBox("the last line ends", broken, last, 15, 14, 5, 9);
    }

    private static void noRoom() {
        LineFlow flow = new LineFlow();
        int tall = Check.floating(flow, 0, 1, 10, 20, 0);
        int low = Check.floating(flow, 0, 2, 10, 6, 0);
        int wide = Check.floating(flow, 0, 1, 25, 3, 0);
        int small = Check.floating(flow, 0, 2, 2, 2, 0);
        int wider = Check.floating(flow, 0, 2, 40, 4, 1);
        Check.due("height", flow.lay(30), 29);
        Check.dueBox("tall", flow, tall, 0, 0, 10, 20);
        Check.dueBox("low", flow, low, 20, 0, 10, 6);
        Check.dueBox("below both", flow, wide, 0, 20, 25, 3);
        Check.dueBox("not above an earlier one", flow, small, 28, 20, 2, 2);
        Check.dueBox("wider than the block, below all", flow, wider, -11, 24, 40, 4);
    }

    private static void justGoes() {
        LineFlow flow = new LineFlow();
        Check.floating(flow, 0, 1, 10, 20, 0);
        int fits = Check.floating(flow, 0, 2, 16, 6, 2);
        flow.lay(30);
        Check.dueBox("goes with margins", flow, fits, 12, 2, 16, 6);
        flow.lay(29);
        Check.dueBox("goes no more", flow, fits, 11, 22, 16, 6);
    }

    private static void itemsBelowFloats() {
        LineFlow flow = new LineFlow();
        Check.floating(flow, 0, 1, 10, 9, 0);
        Check.floating(flow, 0, 2, 10, 5, 0);
        Check.text(flow, 0, "abcd efgh ijklmnop");
        Check.due("height", flow.lay(28), 5 + 7 + 7 + 7);
        Check.dueWords("to the least end of these", flow, 10, 5, 0, 12, 0, 19);
        flow.set(0, Check.WIDTH, 5);
        flow.lay(20);
        Check.dueWords("put all the same without any", flow, 0, 9, 0, 16, 0, 23);
    }

    private static void edgeOfAt() {
        LineFlow flow = new LineFlow();
        Check.floating(flow, 0, 1, 10, 3, 2);
        Check.text(flow, 0, "a");
        Check.breakIn(flow, 0);
        Check.text(flow, 0, "b");
        flow.lay(30);
        Check.dueWords("above its end with margin, and not above it", flow, 14, 0, 0, 7);
        flow.set(1, Check.HEIGHT, 4);
        flow.lay(30);
        Check.dueWords("one point more", flow, 14, 0, 14, 7);
    }

    private static void widths() {
        LineFlow flow = new LineFlow();
        int text = Check.element(flow, 0, Check.FLOAT, 1, Check.BORDER, 1, Check.PADDING, 2);
        Check.text(flow, text, "ab cd");
        Check.due("height", flow.lay(60), 13);
        Check.dueBox("its text in one line, with its frame", flow, text, 0, 0, 25, 13);
        flow.set(text, Check.MARGIN, 20);
        flow.lay(60);
        Check.dueBox("the inner width without margins", flow, text, 20, 20, 20, 20);
        flow.set(text, Check.MARGIN, 50);
        flow.lay(60);
        Check.due("its frame at least", flow.box(text, 2), 6);
        flow.set(text, Check.WIDTH, 2);
        flow.lay(60);
        Check.due("its frame at least, told", flow.box(text, 2), 6);
        flow.set(text, Check.WIDTH, 1033);
        flow.lay(59);
        Check.due("a share, down", flow.box(text, 2), 19);
    }

    private static void displays() {
        LineFlow flow = new LineFlow();
        int inline = Check.element(flow, 0, Check.FLOAT, 1, Check.DISPLAY, 1, Check.WIDTH, 20);
        int inInline = Check.element(flow, inline, Check.HEIGHT, 4, Check.MARGIN, 1);
        int flex = Check.element(flow, 0, Check.FLOAT, 2, Check.DISPLAY, 2, Check.WIDTH, 20);
        int one = Check.piece(flow, flex);
        int two = Check.element(flow, flex, Check.WIDTH, 3, Check.HEIGHT, 9, Check.FLOAT, 2);
        int gone = Check.element(flow, 0, Check.FLOAT, 1, Check.DISPLAY, 3, Check.WIDTH, 20, Check.HEIGHT, 50);
        Check.due("height", flow.lay(60), 9);
        Check.dueBox("an inline float is laid like a block", flow, inline, 0, 0, 20, 6);
        Check.dueBox("with blocks in it", flow, inInline, 1, 1, 18, 4);
        Check.dueBox("a flex float", flow, flex, 40, 0, 20, 9);
        Check.dueBox("side by side", flow, one, 40, 0, 8, 8);
        Check.dueBox("its float is none in a flex", flow, two, 48, 0, 3, 9);
        Check.dueNoBox("gone", flow, gone);
    }

    private static void wordsInTreeOrder() {
        LineFlow flow = new LineFlow();
        int before = Check.text(flow, 0, "a");
        int left = Check.element(flow, 0, Check.FLOAT, 1);
        int in = Check.text(flow, left, "m");
        int behind = Check.text(flow, 0, "b");
        flow.lay(40);
        Check.dueWords("the float waits, its word does not", flow, 0, 0, 0, 7, 4, 0);
        Check.due("text of 0", flow.word(0, 0), before);
        Check.due("text of 1", flow.word(1, 0), in);
        Check.due("text of 2", flow.word(2, 0), behind);
    }

    private static void breakBesideFloats() {
        LineFlow flow = new LineFlow();
        Check.floating(flow, 0, 1, 40, 30, 0);
        Check.breakIn(flow, 0);
        int next = Check.floating(flow, 0, 1, 5, 1, 0);
        Check.due("height", flow.lay(60), 30);
        Check.dueBox("at the line's y", flow, next, 40, 7, 5, 1);
    }

    /** Nothing of one laying is left in the next one. */
    private static void laidAgain() {
        LineFlow flow = new LineFlow();
        Check.text(flow, 0, "ab cd ef");
        int late = Check.floating(flow, 0, 1, 5, 3, 0);
        int last = Check.floating(flow, 0, 2, 5, 3, 0);
        Check.due("narrow", flow.lay(20), 7 + 7 + 3);
        Check.dueBox("narrow", flow, late, 0, 14, 5, 3);
        Check.due("wide", flow.lay(60), 7 + 3);
        Check.dueBox("wide", flow, late, 0, 7, 5, 3);
        Check.dueBox("wide", flow, last, 55, 7, 5, 3);
        Check.due("narrow again", flow.lay(20), 7 + 7 + 3);
        Check.dueBox("narrow again", flow, last, 15, 14, 5, 3);
        flow.set(last, Check.DISPLAY, 3);
        Check.due("without the last", flow.lay(20), 7 + 7 + 3);
        Check.dueNoBox("without the last", flow, last);
    }

    public static void main(String[] args) {
        bothSides();
        heightOfFloats();
        blocksBehind();
        waiting();
        noRoom();
        justGoes();
        itemsBelowFloats();
        edgeOfAt();
        widths();
        displays();
        wordsInTreeOrder();
        breakBesideFloats();
        laidAgain();
        Check.finish();
    }
}
