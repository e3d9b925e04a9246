/** Promise 11: where a word was, and which bytes it has. */
public final class Promise11WordTest {
    private static final int NONE = LineFlow.NONE;

    private static void dueWord(LineFlow flow, int i, int... what) {
        for (int k = 0; k < what.length; k++) {
            Check.due("word(" + i + ", " + k + ")", flow.word(i, k), what[k]);
        }
    }

    private static void whats() {
        Check.sentence("what 0: its TEXT, 1: x, 2: y, 3: width, 4: height, 5: its first byte in the TEXT, 6: how many it has");
        LineFlow flow = new LineFlow();
        flow.set(0, Check.PADDING, 2);
        int first = Check.text(flow, 0, " ab\n \nim");
        int second = Check.text(flow, 0, "c ");
        flow.set(second, Check.SIZE, 2);
        flow.lay(60);
        dueWord(flow, 0, first, 2, 9, 8, 7, 1, 2);
        dueWord(flow, 1, first, 13, 9, 7, 7, 6, 2);
        dueWord(flow, 2, second, 20, 2, 8, 14, 0, 1);
    }

    private static void wholeText() {
        Check.sentence("5: its first byte in the TEXT, 6: how many it has: all of them, and the last one alone");
        LineFlow flow = new LineFlow();
        Check.text(flow, 0, "a".repeat(120));
        Check.text(flow, 0, " ".repeat(119) + "b");
        flow.lay(20);
        Check.due("first byte", flow.word(0, 5), 0);
        Check.due("bytes", flow.word(0, 6), 120);
        Check.due("width", flow.word(0, 3), 480);
        Check.due("last byte alone", flow.word(1, 5), 119);
        Check.due("one byte", flow.word(1, 6), 1);
    }

    private static void noneSuch() {
        Check.sentence("NONE if there is none such");
        LineFlow flow = new LineFlow();
        Check.text(flow, 0, "a b");
        Check.due("nothing is laid", flow.word(0, 0), NONE);
        flow.lay(20);
        for (int i : new int[] {-1, 2, 3, Integer.MIN_VALUE, Integer.MAX_VALUE}) {
            for (int what = 0; what < 7; what++) {
                Check.due("word(" + i + ", " + what + ")", flow.word(i, what), NONE);
            }
        }
        Check.due("the last one", flow.word(1, 5), 2);
    }

    private static void fewerThanBefore() {
        Check.sentence("Of the i-th of these: as it was laid latest");
        LineFlow flow = new LineFlow();
        int text = Check.text(flow, 0, "a b c");
        flow.lay(60);
        Check.tape(flow, "mm");
        flow.text(text);
        flow.set(text, Check.SIZE, 3);
        dueWord(flow, 0, text, 0, 0, 4, 7, 0, 1);
        dueWord(flow, 2, text, 14, 0, 4, 7, 4, 1);
        flow.lay(60);
        dueWord(flow, 0, text, 0, 0, 30, 21, 0, 2);
        for (int i = 1; i < 3; i++) {
            Check.due("there are fewer now: " + i, flow.word(i, 1), NONE);
        }
    }

    private static void anotherWhat() {
        Check.sentence("NONE for another what");
        LineFlow flow = new LineFlow();
        Check.text(flow, 0, "a");
        flow.lay(20);
        for (int what : new int[] {-1, 7, 8, Integer.MIN_VALUE, Integer.MAX_VALUE}) {
            Check.due("what " + what, flow.word(0, what), NONE);
        }
    }

    private static void leftOfAll() {
        Check.sentence("1: x: it may be below 0, as in a wide FLOAT at the right");
        LineFlow flow = new LineFlow();
        int right = Check.element(flow, 0, Check.FLOAT, 2, Check.WIDTH, 30);
        Check.text(flow, right, "a");
        flow.lay(20);
        Check.dueWords("ten to the left", flow, -10, 0);
    }

    public static void main(String[] args) {
        whats();
        wholeText();
        noneSuch();
        fewerThanBefore();
        anotherWhat();
        leftOfAll();
        Check.finish();
    }
}
