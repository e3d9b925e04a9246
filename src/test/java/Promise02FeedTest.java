/** Promise 2: twenty bytes come behind those on the tape. */
public final class Promise02FeedTest {
    private static final int NONE = LineFlow.NONE;
    private static final int I = 0x69202020;
    private static final int M = 0x6d202020;

    private static void howMany() {
        Check.sentence("Twenty bytes come: how many there are");
        LineFlow flow = new LineFlow();
        for (int i = 1; i <= 20; i++) {
            Check.due("feed " + i, flow.feed(0, -1, Integer.MIN_VALUE, Integer.MAX_VALUE, i), 20 * i);
        }
    }

    private static void full() {
        Check.sentence("NONE, and none come, if there would be more than 400");
        LineFlow flow = new LineFlow();
        for (int i = 0; i < 20; i++) {
            flow.feed(M, M, M, M, M);
        }
        Check.due("at 400", flow.feed(I, I, I, I, I), NONE);
        Check.due("all 400 are there", flow.end(400), 400);
        flow.end(399);
        Check.due("at 399", flow.feed(I, I, I, I, I), NONE);
        Check.due("none came at 399", flow.end(400), NONE);
        flow.end(381);
        Check.due("at 381", flow.feed(I, I, I, I, I), NONE);
        Check.due("none came at 381", flow.end(382), NONE);
        flow.end(380);
        Check.due("at 380", flow.feed(I, I, I, I, I), 400);
    }

    private static void refusedLeavesBytes() {
        Check.sentence("none come: those on THE TAPE stay as they were");
        LineFlow flow = new LineFlow();
        int text = flow.node(0, 1);
        flow.feed(M, M, M, M, M);
        for (int i = 1; i < 20; i++) {
            flow.feed(0, 0, 0, 0, 0);
        }
        flow.feed(I, I, I, I, I);
        flow.end(20);
        Check.due("text", flow.text(text), 20);
        flow.lay(400);
        Check.dueWidths("as fed first", flow, 5, 5, 5, 5, 5);
    }

    private static void order() {
        Check.sentence("the highest of each int first");
        LineFlow flow = new LineFlow();
        int text = flow.node(0, 1);
        flow.feed(0x696d2069, 0x61206d61, 0x20696120, 0x61616120, 0x6d6d2069);
        flow.text(text);
        flow.lay(400);
        Check.dueWidths("words", flow, 7, 6, 9, 6, 12, 10, 2);
    }

    private static void negativeInts() {
        Check.sentence("the highest of each int first: bytes above 127");
        LineFlow flow = new LineFlow();
        int text = flow.node(0, 1);
        flow.feed(0xff20ffff, 0x80808020, 0xe920e9e9, -1, 0x20ffffff);
        flow.text(text);
        flow.lay(400);
        Check.dueWidths("words", flow, 4, 20, 4, 24, 12);
    }

    private static void behind() {
        Check.sentence("come behind those on THE TAPE");
        LineFlow flow = new LineFlow();
        int text = flow.node(0, 1);
        flow.feed(M, M, M, M, M);
        flow.end(2);
        Check.due("behind 2", flow.feed(I, I, I, I, I), 22);
        flow.text(text);
        flow.lay(400);
        Check.dueWidths("the first, then the new ones", flow, 5, 2, 2, 2, 2, 2);
    }

    public static void main(String[] args) {
        howMany();
        full();
        refusedLeavesBytes();
        order();
        negativeInts();
        behind();
        Check.finish();
    }
}
