/** Promise 6: the tape's bytes are those of a text. */
public final class Promise06TextTest {
    private static final int NONE = LineFlow.NONE;

    private static void feedTimes(LineFlow flow, int times) {
        for (int i = 0; i < times; i++) {
            flow.feed(0x61616161, 0x61616161, 0x61616161, 0x61616161, 0x61616161);
        }
    }

    private static void takes() {
        Check.sentence("THE TAPE's bytes (it is empty then) are those of a TEXT: how many");
        LineFlow flow = new LineFlow();
        int text = flow.node(0, 1);
        Check.tape(flow, "im a");
        Check.due("text", flow.text(text), 4);
        Check.due("the tape is empty", flow.end(1), NONE);
        Check.due("its bytes", flow.line(0), 14);
        Check.due("the next feed", flow.feed(1, 2, 3, 4, 5), 20);
        Check.due("the text's stay", flow.line(0), 14);
    }

    private static void takesAnew() {
        Check.sentence("THE TAPE's bytes are those of a TEXT: not those that it had");
        LineFlow flow = new LineFlow();
        int text = Check.text(flow, 0, "abcdef");
        Check.tape(flow, "mm");
        Check.due("text", flow.text(text), 2);
        Check.due("line", flow.line(0), 10);
    }

    private static void empty() {
        Check.sentence("no bytes are on THE TAPE: how many, 0");
        LineFlow flow = new LineFlow();
        int text = flow.node(0, 1);
        Check.due("of an empty text", flow.text(text), 0);
        Check.tape(flow, "ab");
        flow.text(text);
        Check.due("of a text that had some", flow.text(text), 0);
        Check.due("it has none now", flow.line(0), 0);
        Check.due("nothing in it", flow.lay(30), 0);
    }

    private static void noSuchText() {
        Check.sentence("NONE, and THE TAPE stays, if there is no such TEXT");
        LineFlow flow = new LineFlow();
        int element = flow.node(0, 0);
        int aBreak = flow.node(0, 2);
        int aPiece = flow.node(0, 3);
        Check.tape(flow, "ab");
        for (int n : new int[] {0, element, aBreak, aPiece, 4, -1, 60, Integer.MIN_VALUE, Integer.MAX_VALUE}) {
            Check.due("text(" + n + ")", flow.text(n), NONE);
        }
        Check.due("the tape has no more", flow.end(3), NONE);
        Check.due("the tape stays", flow.end(2), 2);
        Check.due("none has it", flow.line(0), 0);
    }

    private static void most() {
        Check.sentence("TEXTS of at most 120 bytes");
        LineFlow flow = new LineFlow();
        int text = flow.node(0, 1);
        feedTimes(flow, 6);
        Check.due("120 bytes", flow.text(text), 120);
        Check.due("all of them", flow.line(0), 480);
        Check.due("the tape is empty", flow.end(1), NONE);
    }

    private static void tooMany() {
        Check.sentence("NONE, and THE TAPE stays, if there are more than 120");
        LineFlow flow = new LineFlow();
        int text = Check.text(flow, 0, "mm");
        feedTimes(flow, 20);
        Check.due("400 bytes", flow.text(text), NONE);
        Check.due("all stay", flow.end(400), 400);
        flow.end(121);
        Check.due("121 bytes", flow.text(text), NONE);
        Check.due("they stay", flow.end(121), 121);
        Check.due("the text's stay", flow.line(0), 10);
        flow.end(120);
        Check.due("120 bytes", flow.text(text), 120);
    }

    private static void eachItsOwn() {
        Check.sentence("those of a TEXT: each has its own");
        LineFlow flow = new LineFlow();
        int one = Check.element(flow, 0);
        int two = Check.element(flow, 0);
        Check.text(flow, one, "mmm");
        Check.text(flow, two, "i");
        Check.due("one", flow.line(one), 15);
        Check.due("two", flow.line(two), 2);
    }

    public static void main(String[] args) {
        takes();
        takesAnew();
        empty();
        noSuchText();
        most();
        tooMany();
        eachItsOwn();
        Check.finish();
    }
}
