/** Promise 5: a node comes last in an element. */
public final class Promise05NodeTest {
    private static final int NONE = LineFlow.NONE;

    private static void kinds() {
        Check.sentence("kind 0 an ELEMENT, 1 a TEXT (of no bytes), 2 a BREAK, 3 a PIECE: its number");
        LineFlow flow = new LineFlow();
        for (int kind = 0; kind < 4; kind++) {
            int n = flow.node(0, kind);
            Check.due("kind " + kind, n, kind + 1);
            Check.dueAsAtFirst("kind " + kind, flow, n, kind);
        }
        flow.feed(1, 2, 3, 4, 5);
        Check.due("1 is an element", flow.line(1), 0);
        Check.due("3 is no text", flow.text(3), NONE);
        Check.due("4 may have display none", flow.set(4, 0, 3), 1);
        Check.due("3 may not", flow.set(3, 0, 3), -2);
        Check.due("2 has no bytes", flow.line(0), 0);
        Check.due("2 is a text", flow.text(2), 20);
    }

    private static void last() {
        Check.sentence("A NODE comes last in an ELEMENT");
        LineFlow flow = new LineFlow();
        int first = Check.element(flow, 0, Check.HEIGHT, 5);
        int second = Check.element(flow, 0, Check.HEIGHT, 6);
        int inFirst = Check.element(flow, first, Check.HEIGHT, 1);
        int third = Check.element(flow, 0, Check.HEIGHT, 7);
        int alsoInFirst = Check.element(flow, first, Check.HEIGHT, 2);
        Check.due("in order", flow.lay(40), 18);
        Check.dueBox("first", flow, first, 0, 0, 40, 5);
        Check.dueBox("second", flow, second, 0, 5, 40, 6);
        Check.dueBox("third", flow, third, 0, 11, 40, 7);
        Check.dueBox("in the first", flow, inFirst, 0, 0, 40, 1);
        Check.dueBox("behind it there", flow, alsoInFirst, 0, 1, 40, 2);
    }

    private static void noSuchElement() {
        Check.sentence("NONE if there is no such ELEMENT");
        LineFlow flow = new LineFlow();
        for (int parent : new int[] {-1, 1, 59, 60, Integer.MIN_VALUE, Integer.MAX_VALUE}) {
            for (int kind = 0; kind < 4; kind++) {
                Check.due("node(" + parent + ", " + kind + ")", flow.node(parent, kind), NONE);
            }
        }
        Check.due("none came", flow.node(0, 0), 1);
        Check.due("the next number", flow.node(2, 0), NONE);
    }

    private static void onlyElements() {
        Check.sentence("Only ELEMENTS have others in them");
        LineFlow flow = new LineFlow();
        for (int kind = 1; kind < 4; kind++) {
            int n = flow.node(0, kind);
            for (int inside = 0; inside < 4; inside++) {
                Check.due("in kind " + kind, flow.node(n, inside), NONE);
            }
        }
        Check.due("none came", flow.node(0, 0), 4);
    }

    private static void whateverDisplay() {
        Check.sentence("an ELEMENT, whatever its DISPLAY and FLOAT");
        LineFlow flow = new LineFlow();
        int element = flow.node(0, 0);
        for (int display = 0; display < 4; display++) {
            flow.set(element, 0, display);
            flow.set(element, 1, display % 3);
            Check.due("display " + display, flow.node(element, display), 2 + display);
        }
    }

    private static void noSuchKind() {
        Check.sentence("NONE if there is no such kind");
        LineFlow flow = new LineFlow();
        for (int kind : new int[] {-1, 4, 5, Integer.MIN_VALUE, Integer.MAX_VALUE}) {
            Check.due("kind " + kind, flow.node(0, kind), NONE);
        }
        Check.due("none came", flow.node(0, 3), 1);
    }

    private static void sixty() {
        Check.sentence("NONE if there would be more than 60");
        LineFlow flow = new LineFlow();
        for (int n = 1; n < 60; n++) {
            Check.due("node " + n, flow.node(0, n % 4), n);
        }
        for (int kind = 0; kind < 4; kind++) {
            Check.due("the 61st, kind " + kind, flow.node(0, kind), NONE);
        }
        Check.due("number 60", flow.set(60, 4, 0), -2);
        Check.due("number 59", flow.set(59, 4, 1), 0);
    }

    private static void deep() {
        Check.sentence("NONE if it would lie 13 deep");
        LineFlow flow = new LineFlow();
        for (int deep = 1; deep <= 12; deep++) {
            Check.due(deep + " deep", flow.node(deep - 1, 0), deep);
        }
        for (int kind = 0; kind < 4; kind++) {
            Check.due("13 deep, kind " + kind, flow.node(12, kind), NONE);
        }
        for (int kind = 0; kind < 4; kind++) {
            Check.due("12 deep, kind " + kind, flow.node(11, kind), 13 + kind);
        }
        Check.due("13 deep in another", flow.node(13, 0), NONE);
    }

    public static void main(String[] args) {
        kinds();
        last();
        noSuchElement();
        onlyElements();
        whateverDisplay();
        noSuchKind();
        sixty();
        deep();
        Check.finish();
    }
}
