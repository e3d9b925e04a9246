/** Promises 1, 2, 3 and 6: the tape, and texts that take it. */
public final class TapeTest {
    private static final int NONE = LineFlow.NONE;

    private static void newObject() {
        LineFlow flow = new LineFlow();
        Check.due("new: end(0)", flow.end(0), 0);
        Check.due("new: end(1)", flow.end(1), NONE);
        Check.due("new: words", flow.words(), 0);
        Check.due("new: word", flow.word(0, 0), NONE);
        Check.dueNoBox("new", flow, 0);
        Check.due("new: line of the root", flow.line(0), 0);
        Check.due("new: no node 1", flow.set(1, 0, 0), -2);
        Check.due("new: first node", flow.node(0, 0), 1);
    }

    private static void feeding() {
        LineFlow flow = new LineFlow();
        for (int i = 1; i <= 20; i++) {
            Check.due("feed " + i, flow.feed(1, 2, 3, 4, 5), 20 * i);
        }
        Check.due("feed beyond 400", flow.feed(1, 2, 3, 4, 5), NONE);
        Check.due("end(400)", flow.end(400), 400);
        Check.due("end(381)", flow.end(381), 381);
        Check.due("feed to 401", flow.feed(1, 2, 3, 4, 5), NONE);
        Check.due("no byte came", flow.end(382), NONE);
        Check.due("end(380)", flow.end(380), 380);
        Check.due("feed to 400", flow.feed(1, 2, 3, 4, 5), 400);
    }

    /** The highest byte first: widths 4 5 2 4, then a blank, then the rest. */
    private static void order() {
        LineFlow flow = new LineFlow();
        int text = flow.node(0, 1);
        flow.feed(0x616d6962, 0x20808080, 0x6a6a6a6a, 0x20202020, 0x0a0a0a57);
        Check.due("text", flow.text(text), 20);
        flow.lay(400);
        Check.due("words", flow.words(), 3);
        Check.due("first word's width", flow.word(0, 3), 15);
        Check.due("first word's bytes", flow.word(0, 6), 4);
        Check.due("second word's first byte", flow.word(1, 5), 5);
        Check.due("second word's width", flow.word(1, 3), 20);
        Check.due("second word's bytes", flow.word(1, 6), 7);
        Check.due("third word's first byte", flow.word(2, 5), 19);
        Check.due("third word's width", flow.word(2, 3), 5);
    }

    private static void ending() {
        LineFlow flow = new LineFlow();
        flow.feed(0x61616161, 0, 0, 0, 0);
        Check.due("end(-1)", flow.end(-1), NONE);
        Check.due("end(21)", flow.end(21), NONE);
        Check.due("end(min)", flow.end(Integer.MIN_VALUE), NONE);
        Check.due("end(max)", flow.end(Integer.MAX_VALUE), NONE);
        Check.due("end(20)", flow.end(20), 20);
        Check.due("end(3)", flow.end(3), 3);
        Check.due("end(4) then", flow.end(4), NONE);
        Check.due("feed behind 3", flow.feed(0x6d6d6d6d, 0, 0, 0, 0), 23);
        Check.due("end(5)", flow.end(5), 5);
        int text = flow.node(0, 1);
        flow.text(text);
        Check.due("first bytes stay", flow.line(0), 3 * 4 + 2 * 5);
    }

    private static void texts() {
        LineFlow flow = new LineFlow();
        int element = flow.node(0, 0);
        int text = flow.node(element, 1);
        int aBreak = flow.node(0, 2);
        int aPiece = flow.node(0, 3);
        Check.tape(flow, "ab");
        Check.due("text of an element", flow.text(element), NONE);
        Check.due("text of the root", flow.text(0), NONE);
        Check.due("text of a break", flow.text(aBreak), NONE);
        Check.due("text of a piece", flow.text(aPiece), NONE);
        Check.due("text of none", flow.text(5), NONE);
        Check.due("text of -1", flow.text(-1), NONE);
        Check.due("the tape stays", flow.end(2), 2);
        Check.due("text", flow.text(text), 2);
        Check.due("the tape is empty", flow.end(1), NONE);
        Check.due("line", flow.line(0), 8);
        Check.due("no bytes", flow.text(text), 0);
        Check.due("line of no bytes", flow.line(0), 0);
        for (int i = 0; i < 7; i++) {
            flow.feed(0x61616161, 0x61616161, 0x61616161, 0x61616161, 0x61616161);
        }
        flow.end(121);
        Check.due("121 bytes", flow.text(text), NONE);
        Check.due("the tape stays at 121", flow.end(121), 121);
        flow.end(120);
        Check.due("120 bytes", flow.text(text), 120);
        Check.due("line of 120 bytes", flow.line(0), 480);
    }

    public static void main(String[] args) {
        newObject();
        feeding();
        order();
        ending();
        texts();
        Check.finish();
    }
}
