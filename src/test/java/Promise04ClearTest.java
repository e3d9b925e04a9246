/** Promise 4: the root alone, as at first. */
public final class Promise04ClearTest {
    private static final int NONE = LineFlow.NONE;

    /** A tree with one of each kind, laid, and all that a root may have set. */
    private static LineFlow used() {
        LineFlow flow = new LineFlow();
        int element = Check.element(flow, 0, Check.HEIGHT, 3);
        Check.text(flow, element, "ab cd");
        Check.breakIn(flow, 0);
        Check.piece(flow, 0);
        Check.having(flow, 0, 0, 2, 2, 30, 3, 31, 4, 3);
        Check.having(flow, 0, 5, 4, 6, 5, 7, 1, 8, 2);
        flow.lay(50);
        return flow;
    }

    private static void alone() {
        Check.sentence("THE ROOT alone");
        LineFlow flow = used();
        flow.clear();
        for (int n = 1; n <= 5; n++) {
            Check.due("set(" + n + ", 8, 1)", flow.set(n, 8, 1), -2);
            Check.due("line(" + n + ")", flow.line(n), NONE);
            Check.due("text(" + n + ")", flow.text(n), NONE);
            Check.due("node(" + n + ", 0)", flow.node(n, 0), NONE);
            Check.dueMargins("none", flow, n, NONE, NONE);
        }
        Check.due("its text is gone", flow.line(0), 0);
        Check.due("nothing in it", flow.lay(50), 0);
        Check.dueBox("the root", flow, 0, 0, 0, 50, 0);
    }

    private static void asAtFirst() {
        Check.sentence("as at first");
        LineFlow flow = used();
        flow.clear();
        Check.dueAsAtFirst("the root", flow, 0, 0);
    }

    private static void nothingLaid() {
        Check.sentence("nothing is laid");
        LineFlow flow = used();
        Check.due("words before", flow.words(), 2);
        flow.clear();
        for (int n = 0; n <= 5; n++) {
            Check.dueNoBox("cleared", flow, n);
        }
        Check.due("words()", flow.words(), 0);
        Check.due("word(0, 0)", flow.word(0, 0), NONE);
        Check.due("word(1, 3)", flow.word(1, 3), NONE);
        Check.due("a node that comes then", flow.node(0, 0), 1);
        Check.dueNoBox("it is not laid", flow, 1);
    }

    private static void numberedAgain() {
        Check.sentence("THE ROOT alone: there may be 59 others again, numbered from 1 on");
        LineFlow flow = new LineFlow();
        for (int n = 1; n < 60; n++) {
            flow.node(0, 0);
        }
        Check.due("full", flow.node(0, 0), NONE);
        flow.clear();
        for (int n = 1; n < 60; n++) {
            Check.due("node " + n, flow.node(0, 1), n);
        }
        Check.due("full again", flow.node(0, 0), NONE);
        Check.dueAsAtFirst("the last one", flow, 59, 1);
    }

    private static void tapeStays() {
        Check.sentence("THE TAPE is not told of");
        LineFlow flow = used();
        flow.feed(0x6d6d6d6d, 0x6d6d6d6d, 0x6d6d6d6d, 0x6d6d6d6d, 0x6d6d6d6d);
        flow.clear();
        Check.due("its bytes", flow.end(20), 20);
        int text = flow.node(0, 1);
        Check.due("they come into a text", flow.text(text), 20);
        Check.due("as they were", flow.line(0), 100);
    }

    private static void twice() {
        Check.sentence("clear of a new object, and twice");
        LineFlow flow = new LineFlow();
        flow.clear();
        flow.clear();
        Check.dueAsAtFirst("the root", flow, 0, 0);
        Check.due("words()", flow.words(), 0);
        Check.dueNoBox("the root", flow, 0);
        Check.due("the first node", flow.node(0, 0), 1);
    }

    public static void main(String[] args) {
        alone();
        asAtFirst();
        nothingLaid();
        numberedAgain();
        tapeStays();
        twice();
        Check.finish();
    }
}
