/** Promises 1, 4, 5 and 7: nodes, what they have, and clear. */
public final class TreeTest {
    private static final int NONE = LineFlow.NONE;
    private static final int NO = -2;

    private static void nodes() {
        LineFlow flow = new LineFlow();
        Check.due("node(1, 0) of none", flow.node(1, 0), NONE);
        Check.due("node(-1, 0)", flow.node(-1, 0), NONE);
        Check.due("kind -1", flow.node(0, -1), NONE);
        Check.due("kind 4", flow.node(0, 4), NONE);
        for (int kind = 0; kind < 4; kind++) {
            Check.due("kind " + kind, flow.node(0, kind), kind + 1);
        }
        Check.due("in an element", flow.node(1, 1), 5);
        Check.due("in a text", flow.node(2, 0), NONE);
        Check.due("in a break", flow.node(3, 0), NONE);
        Check.due("in a piece", flow.node(4, 0), NONE);
        for (int n = 6; n < 60; n++) {
            Check.due("node " + n, flow.node(0, n % 4), n);
        }
        Check.due("the 61st", flow.node(0, 0), NONE);
        Check.due("number 60", flow.set(60, 4, 0), NO);
        Check.due("number 59", flow.set(59, 4, 1), 0);
    }

    private static void depth() {
        LineFlow flow = new LineFlow();
        for (int deep = 1; deep <= 12; deep++) {
            Check.due(deep + " deep", flow.node(deep - 1, 0), deep);
        }
        for (int kind = 0; kind < 4; kind++) {
            Check.due("13 deep, kind " + kind, flow.node(12, kind), NONE);
        }
        Check.due("12 deep", flow.node(11, 1), 13);
    }

    private static void last() {
        LineFlow flow = new LineFlow();
        int first = Check.element(flow, 0, Check.HEIGHT, 5);
        int second = Check.element(flow, 0, Check.HEIGHT, 6);
        int inFirst = Check.element(flow, first, Check.HEIGHT, 1);
        int third = Check.element(flow, 0, Check.HEIGHT, 7);
        Check.due("in order", flow.lay(40), 18);
        Check.dueBox("first", flow, first, 0, 0, 40, 5);
        Check.dueBox("second", flow, second, 0, 5, 40, 6);
        Check.dueBox("in the first", flow, inFirst, 0, 0, 40, 1);
        Check.dueBox("third", flow, third, 0, 11, 40, 7);
    }

    /** Each value that is allowed is answered by the next set, each other one leaves all as it was. */
    private static void range(LineFlow flow, int n, int what, int[] allowed, int[] refused) {
        String call = "set(" + n + ", " + what + ", ..)";
        for (int v : allowed) {
            Check.due(call + " not refused " + v, flow.set(n, what, v) == NO ? 1 : 0, 0);
            Check.due(call + " was " + v, flow.set(n, what, v), v);
            for (int no : refused) {
                Check.due(call + " refused " + no, flow.set(n, what, no), NO);
            }
            Check.due(call + " still " + v, flow.set(n, what, v), v);
        }
    }

    private static int[] row(int... v) {
        return v;
    }

    private static void ranges() {
        LineFlow flow = new LineFlow();
        for (int kind = 0; kind < 4; kind++) {
            flow.node(0, kind);
        }
        range(flow, 0, 0, row(0, 2), row(-1, 1, 3, 4));
        range(flow, 1, 0, row(0, 1, 2, 3), row(-1, 4));
        range(flow, 2, 0, row(1), row(-1, 0, 2, 3, 4));
        range(flow, 3, 0, row(1), row(-1, 0, 2, 3, 4));
        range(flow, 4, 0, row(1, 3), row(-1, 0, 2, 4));
        range(flow, 1, 1, row(0, 1, 2), row(-1, 3));
        for (int n : row(0, 2, 3, 4)) {
            range(flow, n, 1, row(0), row(-1, 1, 2, 3));
        }
        for (int n = 0; n < 5; n++) {
            range(flow, n, 2, row(-1, 0, 400, 1000, 1100), row(-2, 401, 999, 1101, Integer.MIN_VALUE));
            range(flow, n, 3, row(-1, 0, 400), row(-2, 401, 1000, 1050, Integer.MAX_VALUE));
            range(flow, n, 4, row(0, 50), row(-1, 51));
            range(flow, n, 5, row(0, 9), row(-1, 10));
            range(flow, n, 6, row(0, 50), row(-1, 51));
            range(flow, n, 7, row(0, 1, 2), row(-1, 3));
            range(flow, n, 8, row(1, 4), row(0, 5, -1));
            Check.due("what -1", flow.set(n, -1, 0), NO);
            Check.due("what 9", flow.set(n, 9, 0), NO);
        }
        Check.due("no node -1", flow.set(-1, 4, 0), NO);
        Check.due("no node 5", flow.set(5, 4, 0), NO);
    }

    private static void atFirst(LineFlow flow, int n, int kind) {
        int[] first = {kind == 0 ? 0 : 1, 0, NONE, NONE, 0, 0, 0, 0, 1};
        for (int what = 0; what < 9; what++) {
            Check.due("at first " + what + " of kind " + kind, flow.set(n, what, first[what]), first[what]);
        }
    }

    private static void clearing() {
        LineFlow flow = new LineFlow();
        atFirst(flow, 0, 0);
        for (int kind = 0; kind < 4; kind++) {
            atFirst(flow, flow.node(0, kind), kind);
        }
        Check.text(flow, 1, "ab cd");
        Check.having(flow, 0, 0, 2, 2, 30, 3, 31, 4, 3);
        Check.having(flow, 0, 5, 4, 6, 5, 7, 1, 8, 2);
        Check.due("laid", flow.lay(50), 31);
        Check.due("words", flow.words(), 2);
        flow.feed(0x61616161, 0, 0, 0, 0);
        flow.clear();
        atFirst(flow, 0, 0);
        Check.dueNoBox("cleared", flow, 0);
        Check.dueNoBox("cleared", flow, 1);
        Check.due("no words", flow.words(), 0);
        Check.due("no word", flow.word(0, 1), NONE);
        Check.due("no line", flow.line(0), 0);
        Check.due("no line of 1", flow.line(1), NONE);
        Check.due("the tape stays", flow.end(20), 20);
        Check.due("no node 1", flow.set(1, 4, 0), NO);
        Check.due("numbered from 1", flow.node(0, 1), 1);
        Check.due("a text of no bytes", flow.line(0), 0);
        Check.due("no height", flow.lay(50), 0);
        Check.dueBox("the root", flow, 0, 0, 0, 50, 0);
    }

    public static void main(String[] args) {
        nodes();
        depth();
        last();
        ranges();
        clearing();
        Check.finish();
    }
}
