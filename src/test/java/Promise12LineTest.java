/** Promise 12: an element's text in one line. */
public final class Promise12LineTest {
    private static final int NONE = LineFlow.NONE;

    private static void allTexts() {
        Check.sentence("the widths of all bytes of all TEXTS in it, in order");
        LineFlow flow = new LineFlow();
        int first = Check.element(flow, 0);
        Check.text(flow, 0, " b");
        Check.text(flow, first, "a");
        Check.text(flow, first, "im");
        Check.breakIn(flow, 0);
        Check.piece(flow, 0, Check.WIDTH, 90);
        Check.text(flow, 0, "c");
        Check.due("the first", flow.line(first), 11);
        Check.due("the root", flow.line(0), 11 + 3 + 8);
    }

    private static void whateverDisplay() {
        Check.sentence("(whatever their DISPLAY)");
        LineFlow flow = new LineFlow();
        int outer = Check.element(flow, 0);
        int element = Check.element(flow, outer);
        Check.text(flow, element, "ab");
        for (int display = 0; display < 4; display++) {
            flow.set(element, Check.DISPLAY, display);
            Check.due("within, display " + display, flow.line(outer), 8);
            Check.due("itself, display " + display, flow.line(element), 8);
        }
        flow.set(element, Check.FLOAT, 2);
        Check.due("a float within", flow.line(outer), 8);
        flow.set(outer, Check.DISPLAY, 3);
        Check.due("in one that is none", flow.line(element), 8);
    }

    private static void runOfBlanks() {
        Check.sentence("each run of BLANKS as one of 3 s");
        LineFlow flow = new LineFlow();
        Check.text(flow, 0, "a \n b");
        Check.due("a run", flow.line(0), 11);
        Check.text(flow, 0, " \n");
        Check.text(flow, 0, "");
        int element = Check.element(flow, 0);
        Check.text(flow, element, " c");
        Check.due("a run over texts", flow.line(0), 11 + 7);
        Check.text(flow, 0, "d");
        Check.due("no blank, no run", flow.line(0), 11 + 7 + 4);
    }

    private static void beginAndEnd() {
        Check.sentence("none at the begin and end");
        LineFlow flow = new LineFlow();
        Check.text(flow, 0, " \n");
        Check.due("blanks alone", flow.line(0), 0);
        int element = Check.element(flow, 0);
        Check.text(flow, element, " a ");
        Check.due("both", flow.line(element), 4);
        Check.text(flow, 0, "\n");
        Check.text(flow, 0, " ");
        Check.due("in texts of their own", flow.line(0), 4);
        Check.text(flow, 0, "b");
        Check.due("no longer at the end", flow.line(0), 11);
        LineFlow two = new LineFlow();
        int ends = Check.element(two, 0);
        Check.text(two, ends, "a ");
        int begins = Check.element(two, 0);
        Check.text(two, begins, "b");
        Check.due("a blank at the end", two.line(ends), 4);
        Check.due("is none at the begin of another line", two.line(begins), 4);
    }

    private static void sizeOfElement() {
        Check.sentence("all by the SIZE s of that ELEMENT");
        LineFlow flow = new LineFlow();
        int element = Check.element(flow, 0);
        int text = Check.text(flow, element, "a b");
        flow.set(text, Check.SIZE, 4);
        for (int size = 1; size <= 4; size++) {
            flow.set(element, Check.SIZE, size);
            Check.due("size " + size, flow.line(element), 11 * size);
            Check.due("the root's is 1", flow.line(0), 11);
        }
    }

    private static void empty() {
        Check.sentence("How wide: 0, if there is no text");
        LineFlow flow = new LineFlow();
        Check.due("nothing in it", flow.line(0), 0);
        int element = Check.element(flow, 0, Check.PADDING, 9, Check.BORDER, 2, Check.WIDTH, 50);
        Check.piece(flow, element);
        flow.node(element, 1);
        Check.due("a text of no bytes", flow.line(element), 0);
    }

    private static void asItIsNow() {
        Check.sentence("as it is now");
        LineFlow flow = new LineFlow();
        int text = Check.text(flow, 0, "ab");
        flow.lay(20);
        Check.tape(flow, "mm m");
        flow.text(text);
        Check.due("bytes that came later", flow.line(0), 18);
        flow.set(0, Check.SIZE, 2);
        Check.due("a size that came later", flow.line(0), 36);
        Check.due("again", flow.line(0), 36);
    }

    private static void noSuchElement() {
        Check.sentence("NONE if there is no such ELEMENT");
        LineFlow flow = new LineFlow();
        Check.text(flow, 0, "ab");
        int aBreak = Check.breakIn(flow, 0);
        int piece = Check.piece(flow, 0);
        for (int n : new int[] {1, aBreak, piece, 4, -1, 59, 60, Integer.MIN_VALUE, Integer.MAX_VALUE}) {
            Check.due("line(" + n + ")", flow.line(n), NONE);
        }
    }

    private static void widest() {
        Check.sentence("TEXTS of at most 120 bytes, NODES at most 60: the widest line");
        LineFlow flow = new LineFlow();
        for (int i = 0; i < 59; i++) {
            Check.text(flow, 0, "m".repeat(120));
        }
        flow.set(0, Check.SIZE, 4);
        Check.due("line", flow.line(0), 59 * 120 * 5 * 4);
    }

    private static void deepest() {
        Check.sentence("all TEXTS in it: 12 deep, too");
        LineFlow flow = new LineFlow();
        for (int deep = 1; deep <= 11; deep++) {
            flow.node(deep - 1, 0);
        }
        Check.text(flow, 11, "ab");
        for (int deep = 0; deep <= 11; deep++) {
            Check.due("line of the one " + deep + " deep", flow.line(deep), 8);
        }
    }

    public static void main(String[] args) {
        allTexts();
        whateverDisplay();
        runOfBlanks();
        beginAndEnd();
        sizeOfElement();
        empty();
        asItIsNow();
        noSuchElement();
        widest();
        deepest();
        Check.finish();
    }
}
