/** Promise 3: the tape has its first bytes alone. */
public final class Promise03EndTest {
    private static final int NONE = LineFlow.NONE;

    private static void firstAlone() {
        Check.sentence("THE TAPE has its first n bytes alone: n");
        LineFlow flow = new LineFlow();
        int text = flow.node(0, 1);
        flow.feed(0x69206d20, 0x61206d6d, 0, 0, 0);
        Check.due("all of them", flow.end(20), 20);
        Check.due("end(7)", flow.end(7), 7);
        Check.due("the others are gone", flow.end(8), NONE);
        Check.due("text", flow.text(text), 7);
        flow.lay(400);
        Check.dueWidths("the first seven", flow, 2, 5, 4, 5);
    }

    private static void none() {
        Check.sentence("n is 0");
        LineFlow flow = new LineFlow();
        Check.due("of an empty tape", flow.end(0), 0);
        flow.feed(1, 2, 3, 4, 5);
        Check.due("of twenty", flow.end(0), 0);
        Check.due("none is left", flow.end(1), NONE);
    }

    private static void notSoMany() {
        Check.sentence("NONE if there are not so many");
        LineFlow flow = new LineFlow();
        Check.due("end(1) of none", flow.end(1), NONE);
        flow.feed(1, 2, 3, 4, 5);
        Check.due("end(21)", flow.end(21), NONE);
        Check.due("end(400)", flow.end(400), NONE);
        Check.due("end(401)", flow.end(401), NONE);
        Check.due("the greatest int", flow.end(Integer.MAX_VALUE), NONE);
        Check.due("all stay", flow.end(20), 20);
    }

    private static void below() {
        Check.sentence("or n is below 0");
        LineFlow flow = new LineFlow();
        Check.due("end(-1) of none", flow.end(-1), NONE);
        flow.feed(1, 2, 3, 4, 5);
        Check.due("end(-1)", flow.end(-1), NONE);
        Check.due("end(-20)", flow.end(-20), NONE);
        Check.due("the least int", flow.end(Integer.MIN_VALUE), NONE);
        Check.due("all stay", flow.end(20), 20);
    }

    private static void full() {
        Check.sentence("THE TAPE has at most 400 bytes");
        LineFlow flow = new LineFlow();
        for (int i = 0; i < 20; i++) {
            flow.feed(1, 2, 3, 4, 5);
        }
        Check.due("end(401)", flow.end(401), NONE);
        Check.due("end(400)", flow.end(400), 400);
        Check.due("end(399)", flow.end(399), 399);
        Check.due("end(400) then", flow.end(400), NONE);
    }

    public static void main(String[] args) {
        firstAlone();
        none();
        notSoMany();
        below();
        full();
        Check.finish();
    }
}
