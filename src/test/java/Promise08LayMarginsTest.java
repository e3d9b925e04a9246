/** Promise 8: lay; margins that join. */
public final class Promise08LayMarginsTest {
    private static final int NONE = LineFlow.NONE;

    private final LineFlow flow = new LineFlow();
    private int outer;
    private int in;

    /** A block with a margin, and in it one 3 high with another margin. */
    private static Promise08LayMarginsTest two(int outerMargin, int innerMargin) {
        Promise08LayMarginsTest made = new Promise08LayMarginsTest();
        made.outer = Check.element(made.flow, 0, Check.MARGIN, outerMargin);
        made.in = Check.element(made.flow, made.outer, Check.MARGIN, innerMargin, Check.HEIGHT, 3);
        return made;
    }

    /** The height of all, y and height of the outer one, y of that in it. */
    private void due(String what, int height, int outerY, int outerHeight, int innerY) {
        Check.due(what + ": height of all", flow.lay(300), height);
        Check.due(what + ": y of the outer", flow.box(outer, 1), outerY);
        Check.due(what + ": height of the outer", flow.box(outer, 3), outerHeight);
        Check.due(what + ": y of that in it", flow.box(in, 1), innerY);
    }

    private static void greater() {
        Check.sentence("TOP of a BLOCK is its margin, or TOP of the first thing in it, if that is greater");
        two(2, 5).due("the thing's is greater", 5 + 3 + 5, 5, 3, 5);
        two(0, 1).due("by one", 1 + 3 + 1, 1, 3, 1);
        two(0, 50).due("the greatest", 50 + 3 + 50, 50, 3, 50);
    }

    private static void lesser() {
        Check.sentence("that first thing's TOP has JOINED then, whichever is greater, and it stands at the INNER y;"
                + " so BOTTOM");
        two(5, 2).due("the thing's is less", 5 + 3 + 5, 5, 3, 5);
        two(4, 4).due("both the same", 4 + 3 + 4, 4, 3, 4);
        two(4, 0).due("the thing has none", 4 + 3 + 4, 4, 3, 4);
        two(0, 0).due("none has any", 3, 0, 3, 0);
    }

    private static void ownFrame() {
        Check.sentence("its own border and padding 0");
        Promise08LayMarginsTest made = two(2, 5);
        made.flow.set(made.outer, Check.BORDER, 1);
        made.due("border", 2 + 15 + 2, 2, 15, 8);
        made.flow.set(made.outer, Check.BORDER, 0);
        made.flow.set(made.outer, Check.PADDING, 1);
        made.due("padding", 2 + 15 + 2, 2, 15, 8);
        made.flow.set(made.outer, Check.PADDING, 0);
        made.flow.set(made.in, Check.PADDING, 1);
        made.flow.set(made.in, Check.BORDER, 1);
        made.due("those of the thing do not matter", 5 + 4 + 5, 5, 4, 5);
    }

    private static void ownDisplay() {
        Check.sentence("its display block");
        Promise08LayMarginsTest made = two(2, 5);
        made.flow.set(made.outer, Check.DISPLAY, 2);
        made.due("a flex", 2 + 13 + 2, 2, 13, 7);
        made.flow.set(made.outer, Check.DISPLAY, 0);
        made.flow.set(made.in, Check.DISPLAY, 2);
        made.due("the thing may be a flex", 5 + 3 + 5, 5, 3, 5);
    }

    private static void liesInBlock() {
        Check.sentence("it a BLOCK that lies in one of display block");
        Promise08LayMarginsTest made = two(2, 5);
        made.flow.set(0, Check.DISPLAY, 2);
        made.due("in a flex", 2 + 13 + 2, 2, 13, 7);
    }

    private static void liesInBlockThatIsNoFlow() {
        Check.sentence("it a BLOCK that lies in one of display block: what that one lies in does not matter");
        Promise08LayMarginsTest made = two(2, 5);
        int deep = Check.element(made.flow, made.in, Check.MARGIN, 9, Check.HEIGHT, 1);
        made.flow.set(made.in, Check.HEIGHT, NONE);
        made.flow.set(0, Check.DISPLAY, 2);
        made.due("in a block in a flex", 2 + 19 + 2, 2, 19, 11);
        Check.due("deep", made.flow.box(deep, 1), 11);
    }

    /** What is laid like a block though its display is inline: nothing that lies in it joins. */
    private static void liesInInline() {
        Check.sentence("it a BLOCK that lies in one of display block: not inline");
        Promise08LayMarginsTest made = two(2, 5);
        int deep = Check.element(made.flow, made.in, Check.MARGIN, 9, Check.HEIGHT, 1);
        made.flow.set(made.in, Check.HEIGHT, NONE);
        made.flow.set(made.outer, Check.DISPLAY, 1);
        made.flow.set(made.outer, Check.FLOAT, 1);
        made.due("in an inline float", 2 + 29 + 2, 2, 29, 7);
        Check.due("deep in an inline float", made.flow.box(deep, 1), 16);
        Check.dueMargins("in an inline float", made.flow, made.in, 5, 5);
        made.flow.set(made.outer, Check.FLOAT, 0);
        made.flow.set(0, Check.DISPLAY, 2);
        made.due("in an inline one of a flex", 2 + 29 + 2, 2, 29, 7);
        Check.due("deep in an inline one of a flex", made.flow.box(deep, 1), 16);
        Check.dueMargins("in an inline one of a flex", made.flow, made.in, 5, 5);
    }

    private static void notRoot() {
        Check.sentence("(not THE ROOT");
        LineFlow flow = new LineFlow();
        int block = Check.element(flow, 0, Check.MARGIN, 5, Check.HEIGHT, 3);
        Check.due("height", flow.lay(40), 13);
        Check.due("y", flow.box(block, 1), 5);
        Check.dueBox("the root", flow, 0, 0, 0, 40, 13);
    }

    private static void noFloat() {
        Check.sentence("no FLOAT): TOP and BOTTOM not JOINED with anything outside");
        Promise08LayMarginsTest made = two(2, 5);
        made.flow.set(made.outer, Check.FLOAT, 1);
        made.due("a float", 2 + 13 + 2, 2, 13, 7);
        int deep = Check.element(made.flow, made.in, Check.MARGIN, 9, Check.HEIGHT, 1);
        made.flow.set(made.in, Check.HEIGHT, NONE);
        made.due("what lies in it joins within", 2 + 19 + 2, 2, 19, 11);
        Check.due("deep", made.flow.box(deep, 1), 11);
    }

    /** What comes first in a block, or last, that is no BLOCK. */
    private static int other(LineFlow flow, int parent, int which) {
        switch (which) {
            case 0: return flow.node(parent, 1);
            case 1: return Check.element(flow, parent, Check.FLOAT, 1, Check.MARGIN, 0);
            case 2: return Check.element(flow, parent, Check.DISPLAY, 1, Check.MARGIN, 40);
            case 3: return Check.piece(flow, parent, Check.HEIGHT, 0, Check.MARGIN, 40);
            default: return Check.element(flow, parent, Check.DISPLAY, 1, Check.FLOAT, 2);
        }
    }

    private static final String[] OTHERS = {"a text", "a float", "an inline element", "a piece", "an inline float"};

    private static void firstIsNoBlock() {
        Check.sentence("TOP of the first thing in it, that thing a BLOCK");
        for (int which = 0; which < OTHERS.length; which++) {
            Promise08LayMarginsTest made = new Promise08LayMarginsTest();
            made.outer = Check.element(made.flow, 0, Check.MARGIN, 2);
            other(made.flow, made.outer, which);
            made.in = Check.element(made.flow, made.outer, Check.MARGIN, 5, Check.HEIGHT, 3);
            made.due(OTHERS[which] + " is first", 2 + 8 + 5, 2, 8, 7);
        }
    }

    private static void lastIsNoBlock() {
        Check.sentence("BOTTOM likewise by the last thing");
        for (int which = 0; which < OTHERS.length; which++) {
            Promise08LayMarginsTest made = two(2, 5);
            other(made.flow, made.outer, which);
            made.due(OTHERS[which] + " is last", 5 + 8 + 2, 5, 8, 5);
        }
    }

    private static void withoutNone() {
        Check.sentence("What lies in a BLOCK, without what has DISPLAY none");
        Promise08LayMarginsTest made = new Promise08LayMarginsTest();
        made.outer = Check.element(made.flow, 0, Check.MARGIN, 2);
        Check.element(made.flow, made.outer, Check.DISPLAY, 3, Check.MARGIN, 40);
        Check.piece(made.flow, made.outer, Check.DISPLAY, 3);
        made.in = Check.element(made.flow, made.outer, Check.MARGIN, 5, Check.HEIGHT, 3);
        Check.piece(made.flow, made.outer, Check.DISPLAY, 3);
        Check.element(made.flow, made.outer, Check.DISPLAY, 3, Check.FLOAT, 1, Check.MARGIN, 40);
        made.due("none first and last", 5 + 3 + 5, 5, 3, 5);
    }

    private static void nothingInIt() {
        Check.sentence("TOP of a BLOCK is its margin: nothing is in it");
        LineFlow flow = new LineFlow();
        int empty = Check.element(flow, 0, Check.MARGIN, 4);
        Check.element(flow, empty, Check.DISPLAY, 3, Check.MARGIN, 40);
        Check.due("height", flow.lay(40), 8);
        Check.dueBox("empty", flow, empty, 4, 4, 32, 0);
    }

    private static void heightTold() {
        Check.sentence("if its height is not told, too");
        int[][] due = {{0, 0}, {1, 1}, {3, 3}, {8, 8}};
        for (int[] d : due) {
            Promise08LayMarginsTest made = two(2, 5);
            made.flow.set(made.outer, Check.HEIGHT, d[0]);
            made.due("told " + d[0], 5 + d[1] + 2, 5, d[1], 5);
        }
        Promise08LayMarginsTest wide = two(2, 5);
        wide.flow.set(wide.outer, Check.WIDTH, 40);
        wide.due("a width that is told does not matter", 5 + 3 + 5, 5, 3, 5);
    }

    private static void firstAndLastApart() {
        Check.sentence("TOP by the first thing; BOTTOM by the last thing");
        LineFlow flow = new LineFlow();
        int outer = Check.element(flow, 0, Check.MARGIN, 3);
        int first = Check.element(flow, outer, Check.MARGIN, 7, Check.HEIGHT, 1);
        int middle = Check.element(flow, outer, Check.MARGIN, 30, Check.HEIGHT, 1);
        int last = Check.element(flow, outer, Check.MARGIN, 9, Check.HEIGHT, 1);
        Check.due("height", flow.lay(200), 7 + 1 + 30 + 1 + 30 + 1 + 9);
        Check.dueBox("outer", flow, outer, 3, 7, 194, 63);
        Check.due("first", flow.box(first, 1), 7);
        Check.due("middle", flow.box(middle, 1), 38);
        Check.due("last", flow.box(last, 1), 69);
    }

    private static void forItAlone() {
        Check.sentence("TOP and BOTTOM of a thing count so for it alone");
        Promise08LayMarginsTest made = two(2, 5);
        int next = Check.element(made.flow, 0, Check.MARGIN, 4, Check.HEIGHT, 1);
        made.due("with a next one", 5 + 3 + 5 + 1 + 4, 5, 3, 5);
        Check.due("behind its BOTTOM", made.flow.box(next, 1), 13);
        made.flow.set(next, Check.MARGIN, 6);
        made.due("a greater TOP", 5 + 3 + 6 + 1 + 6, 5, 3, 5);
        Check.due("behind this TOP", made.flow.box(next, 1), 14);
        Check.text(made.flow, 0, "a");
        Check.due("lines behind it", made.flow.lay(300), 5 + 3 + 6 + 1 + 6 + 7);
    }

    private static void chain() {
        Check.sentence("TOP of the first thing in it: by what lies in that one, and so on");
        LineFlow flow = new LineFlow();
        for (int deep = 1; deep <= 12; deep++) {
            Check.element(flow, deep - 1, Check.MARGIN, deep);
        }
        flow.set(12, Check.HEIGHT, 4);
        Check.due("height", flow.lay(400), 12 + 4 + 12);
        for (int deep = 1; deep <= 12; deep++) {
            Check.due("y " + deep + " deep", flow.box(deep, 1), 12);
            Check.due("height " + deep + " deep", flow.box(deep, 3), 4);
        }
        flow.set(6, Check.PADDING, 1);
        Check.due("parted in the middle", flow.lay(400), 6 + 1 + 12 + 4 + 12 + 1 + 6);
        Check.due("outer ones", flow.box(1, 1), 6);
        Check.due("the one with padding", flow.box(6, 1), 6);
        Check.due("inner ones", flow.box(7, 1), 19);
        Check.due("the deepest", flow.box(12, 1), 19);
    }

    private static void joinedBelowFloat() {
        Check.sentence("the ends of its FLOATS reach, whatever is more: the last thing's BOTTOM has JOINED");
        LineFlow flow = new LineFlow();
        int outer = Check.element(flow, 0);
        Check.floating(flow, outer, 1, 5, 10, 0);
        int last = Check.element(flow, outer, Check.MARGIN, 4, Check.HEIGHT, 1);
        Check.due("height", flow.lay(40), 10 + 1 + 4);
        Check.dueBox("outer", flow, outer, 0, 0, 40, 11);
        Check.due("last", flow.box(last, 1), 10);
    }

    public static void main(String[] args) {
        greater();
        lesser();
        ownFrame();
        ownDisplay();
        liesInBlock();
        liesInBlockThatIsNoFlow();
        liesInInline();
        notRoot();
        noFloat();
        firstIsNoBlock();
        lastIsNoBlock();
        withoutNone();
        nothingInIt();
        heightTold();
        firstAndLastApart();
        forItAlone();
        chain();
        joinedBelowFloat();
        Check.finish();
    }
}
