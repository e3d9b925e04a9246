/** The example of README.md: each answer that it names is as it says. */
public final class ReadmeTest {
    public static void main(String[] args) {
        LineFlow flow = new LineFlow();
        int left = flow.node(0, 0);
        flow.set(left, 1, 1);
        flow.set(left, 2, 8);
        flow.set(left, 3, 10);
        int text = flow.node(0, 1);
        flow.feed(0x61626320, 0x64656600, 0, 0, 0);
        flow.end(7);
        flow.text(text);
        Check.due("lay(30)", flow.lay(30), 14);
        Check.due("x of \"abc\"", flow.word(0, 1), 8);
        Check.due("y of \"def\"", flow.word(1, 2), 7);
        Check.due("the float's width", flow.box(left, 2), 8);
        Check.due("the tape is empty", flow.end(1), LineFlow.NONE);
        Check.finish();
    }
}
