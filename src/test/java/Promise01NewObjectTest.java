/** Promise 1: an object in the state that the terms give. */
public final class Promise01NewObjectTest {
    private static final int NONE = LineFlow.NONE;

    private static void constant() {
        Check.sentence("NONE = -1");
        Check.due("NONE", LineFlow.NONE, -1);
    }

    private static void emptyTape() {
        Check.sentence("the state that the terms give: no bytes on THE TAPE");
        LineFlow flow = new LineFlow();
        Check.due("end(1)", flow.end(1), NONE);
        Check.due("end(0)", flow.end(0), 0);
        Check.due("the first feed", flow.feed(0, 0, 0, 0, 0), 20);
    }

    private static void rootAlone() {
        Check.sentence("the state that the terms give: 0 is THE ROOT, and no other");
        LineFlow flow = new LineFlow();
        for (int n : new int[] {-1, 1, 2, 59, 60}) {
            Check.due("set(" + n + ", 8, 1)", flow.set(n, 8, 1), -2);
            Check.due("line(" + n + ")", flow.line(n), NONE);
            Check.due("node(" + n + ", 0)", flow.node(n, 0), NONE);
        }
        Check.due("line(0)", flow.line(0), 0);
        Check.due("the first node", flow.node(0, 0), 1);
    }

    private static void atFirst() {
        Check.sentence("0 at first, NONE (at first), SIZE 1 to 4 (1)");
        Check.dueAsAtFirst("the root", new LineFlow(), 0, 0);
    }

    private static void nothingLaid() {
        Check.sentence("the state that the terms give: nothing is laid");
        LineFlow flow = new LineFlow();
        Check.dueNoBox("the root", flow, 0);
        Check.due("words()", flow.words(), 0);
        for (int what = 0; what < 7; what++) {
            Check.due("word(0, " + what + ")", flow.word(0, what), NONE);
        }
    }

    private static void empty() {
        Check.sentence("THE ROOT of a new object, laid");
        LineFlow flow = new LineFlow();
        Check.due("lay(20)", flow.lay(20), 0);
        Check.dueBox("the root", flow, 0, 0, 0, 20, 0);
        Check.due("words()", flow.words(), 0);
    }

    private static void apart() {
        Check.sentence("a new object has nothing of another one");
        LineFlow one = new LineFlow();
        Check.text(one, 0, "ab");
        Check.having(one, 0, Check.PADDING, 4, Check.SIZE, 3);
        one.feed(1, 2, 3, 4, 5);
        one.lay(40);
        LineFlow two = new LineFlow();
        Check.due("end(1)", two.end(1), NONE);
        Check.due("words()", two.words(), 0);
        Check.dueNoBox("the root", two, 0);
        Check.dueAsAtFirst("the root", two, 0, 0);
        Check.due("lay(20)", two.lay(20), 0);
        Check.due("the other one's words", one.words(), 1);
        Check.dueBox("the other one's root", one, 0, 0, 0, 40, 15);
        Check.due("the other one's tape", one.end(20), 20);
    }

    public static void main(String[] args) {
        constant();
        emptyTape();
        rootAlone();
        atFirst();
        nothingLaid();
        empty();
        apart();
        Check.finish();
    }
}
