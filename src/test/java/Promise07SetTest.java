/** Promise 7: what a node has. */
public final class Promise07SetTest {
    private static final int NO = -2;

    /** A root, and one of each kind in it: 1 an element, 2 a text, 3 a break, 4 a piece. */
    private static LineFlow five() {
        LineFlow flow = new LineFlow();
        for (int kind = 0; kind < 4; kind++) {
            flow.node(0, kind);
        }
        return flow;
    }

    private static int[] row(int... v) {
        return v;
    }

    /** Each value that is allowed is answered by the next set, each other one leaves it as it was. */
    private static void range(LineFlow flow, int n, int what, int[] allowed, int[] refused) {
        String call = "set(" + n + ", " + what + ", ..)";
        for (int v : allowed) {
            Check.due(call + " refuses " + v, flow.set(n, what, v) == NO ? 1 : 0, 0);
            Check.due(call + " was " + v, flow.set(n, what, v), v);
            for (int no : refused) {
                Check.due(call + " refuses " + no, flow.set(n, what, no), NO);
            }
            refuseExtremes(flow, n, what);
            Check.due(call + " still " + v, flow.set(n, what, v), v);
        }
    }

    private static void refuseExtremes(LineFlow flow, int n, int what) {
        Check.due("the least int", flow.set(n, what, Integer.MIN_VALUE), NO);
        Check.due("the greatest int", flow.set(n, what, Integer.MAX_VALUE), NO);
    }

    private static void whatItWas() {
        Check.sentence("is v: what it was");
        LineFlow flow = five();
        int[] values = {2, 1, 30, 31, 32, 3, 33, 2, 4};
        int[] first = {0, 0, -1, -1, 0, 0, 0, 0, 1};
        for (int what = 0; what < 9; what++) {
            Check.due("at first " + what, flow.set(1, what, values[what]), first[what]);
        }
        for (int what = 0; what < 9; what++) {
            Check.due("then " + what, flow.set(1, what, first[what]), values[what]);
        }
    }

    private static void eachNodeItsOwn() {
        Check.sentence("what a NODE has: each its own");
        LineFlow flow = five();
        for (int n = 0; n < 5; n++) {
            flow.set(n, Check.MARGIN, 10 + n);
        }
        for (int n = 0; n < 5; n++) {
            Check.due("margin of " + n, flow.set(n, Check.MARGIN, 0), 10 + n);
        }
    }

    private static void noSuchNode() {
        Check.sentence("-2 if there is no such NODE");
        LineFlow flow = five();
        for (int n : row(-1, 5, 59, 60, Integer.MIN_VALUE, Integer.MAX_VALUE)) {
            Check.due("set(" + n + ", 4, 0)", flow.set(n, 4, 0), NO);
        }
    }

    private static void noSuchWhat() {
        Check.sentence("-2 if there is no such what");
        LineFlow flow = five();
        for (int n = 0; n < 5; n++) {
            for (int what : row(-1, 9, 10, Integer.MIN_VALUE, Integer.MAX_VALUE)) {
                Check.due("set(" + n + ", " + what + ", 0)", flow.set(n, what, 0), NO);
                Check.due("set(" + n + ", " + what + ", 1)", flow.set(n, what, 1), NO);
            }
        }
    }

    private static void display() {
        LineFlow flow = five();
        Check.sentence("DISPLAY 0 block, 1 inline, 2 flex, 3 none");
        range(flow, 1, 0, row(0, 1, 2, 3), row(-2, -1, 4));
        Check.sentence("DISPLAY of others: 1, always");
        range(flow, 2, 0, row(1), row(-1, 0, 2, 3, 4));
        range(flow, 3, 0, row(1), row(-1, 0, 2, 3, 4));
        Check.sentence("but a PIECE 1 or 3");
        range(flow, 4, 0, row(1, 3), row(-1, 0, 2, 4));
        Check.sentence("THE ROOT's DISPLAY is 0 or 2");
        range(flow, 0, 0, row(0, 2), row(-1, 1, 3, 4));
    }

    private static void floats() {
        LineFlow flow = five();
        Check.sentence("FLOAT 0 none, 1 left, 2 right");
        range(flow, 1, 1, row(0, 1, 2), row(-2, -1, 3));
        Check.sentence("0 of THE ROOT, of TEXTS, BREAKS and PIECES always");
        for (int n : row(0, 2, 3, 4)) {
            range(flow, n, 1, row(0), row(-1, 1, 2, 3));
        }
    }

    private static void lengths() {
        for (int n = 0; n < 5; n++) {
            LineFlow flow = five();
            Check.sentence("WIDTH 0 to 400 or NONE, also 1000 and a share of 0 to 100");
            range(flow, n, 2, row(-1, 0, 1, 400, 1000, 1001, 1100), row(-2, 401, 999, 1101, 1400));
            Check.sentence("HEIGHT 0 to 400 or NONE");
            range(flow, n, 3, row(-1, 0, 1, 400), row(-2, 401, 1000, 1050, 1100));
        }
    }

    private static void spaces() {
        for (int n = 0; n < 5; n++) {
            LineFlow flow = five();
            Check.sentence("MARGIN 0 to 50");
            range(flow, n, 4, row(0, 1, 50), row(-1, 51));
            Check.sentence("BORDER 0 to 9");
            range(flow, n, 5, row(0, 1, 9), row(-1, 10));
            Check.sentence("PADDING 0 to 50");
            range(flow, n, 6, row(0, 1, 50), row(-1, 51));
            Check.sentence("ALIGN 0 to 2");
            range(flow, n, 7, row(0, 1, 2), row(-1, 3));
            Check.sentence("SIZE 1 to 4");
            range(flow, n, 8, row(1, 2, 3, 4), row(-1, 0, 5));
        }
    }

    private static void laidStays() {
        Check.sentence("what is laid stays as it was until the next lay");
        LineFlow flow = five();
        Check.having(flow, 1, Check.HEIGHT, 5);
        flow.lay(30);
        Check.having(flow, 1, Check.HEIGHT, 9, Check.MARGIN, 2, Check.WIDTH, 3);
        Check.dueBox("as laid", flow, 1, 0, 0, 30, 5);
        flow.lay(30);
        Check.dueBox("laid again", flow, 1, 2, 2, 3, 9);
    }

    public static void main(String[] args) {
        whatItWas();
        eachNodeItsOwn();
        noSuchNode();
        noSuchWhat();
        display();
        floats();
        lengths();
        spaces();
        laidStays();
        Check.finish();
    }
}
