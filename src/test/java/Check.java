/** Counts the answers that are not as due, and has short ways to make what tests need. */
final class Check {
    static final int DISPLAY = 0;
    static final int FLOAT = 1;
    static final int WIDTH = 2;
    static final int HEIGHT = 3;
    static final int MARGIN = 4;
    static final int BORDER = 5;
    static final int PADDING = 6;
    static final int ALIGN = 7;
    static final int SIZE = 8;

    private static int wrong = 0;
    private static String sentence = "";

    private Check() {
    }

    /** The sentence of the document that the next answers test; it is named with each that is not as due. */
    static void sentence(String told) {
        sentence = "'" + told + "': ";
    }

    static void due(String what, long got, long want) {
        if (got != want) {
            wrong++;
            if (wrong <= 50) {
                System.out.println(sentence + what + " answered " + got + ", due is " + want);
            }
        }
    }

    static void finish() {
        System.out.println(wrong == 0 ? "all answers are as due" : wrong + " answers are not as due");
        if (wrong != 0) {
            System.exit(1);
        }
    }

    /** Puts the characters of s on an empty tape. */
    static void tape(LineFlow flow, String s) {
        for (int at = 0; at < s.length(); at += 20) {
            int[] five = new int[5];
            for (int i = 0; i < 20; i++) {
                int c = at + i < s.length() ? s.charAt(at + i) & 255 : 0;
                five[i / 4] = five[i / 4] << 8 | c;
            }
            flow.feed(five[0], five[1], five[2], five[3], five[4]);
        }
        // An object has 512 calls alone: none is spent where the last twenty bytes are whole.
        if (s.length() % 20 != 0) {
            due("end of the tape", flow.end(s.length()), s.length());
        }
    }

    static int text(LineFlow flow, int parent, String s) {
        int n = flow.node(parent, 1);
        tape(flow, s);
        due("text(" + n + ")", flow.text(n), s.length());
        return n;
    }

    static int element(LineFlow flow, int parent, int... whatAndValue) {
        return having(flow, flow.node(parent, 0), whatAndValue);
    }

    static int breakIn(LineFlow flow, int parent, int... whatAndValue) {
        return having(flow, flow.node(parent, 2), whatAndValue);
    }

    static int piece(LineFlow flow, int parent, int... whatAndValue) {
        return having(flow, flow.node(parent, 3), whatAndValue);
    }

    static int having(LineFlow flow, int n, int... whatAndValue) {
        for (int i = 0; i < whatAndValue.length; i += 2) {
            flow.set(n, whatAndValue[i], whatAndValue[i + 1]);
        }
        return n;
    }

    static void dueBox(String what, LineFlow flow, int n, int x, int y, int width, int height) {
        due(what + ": x of " + n, flow.box(n, 0), x);
        due(what + ": y of " + n, flow.box(n, 1), y);
        due(what + ": width of " + n, flow.box(n, 2), width);
        due(what + ": height of " + n, flow.box(n, 3), height);
    }

    static void dueNoBox(String what, LineFlow flow, int n) {
        dueBox(what, flow, n, LineFlow.NONE, LineFlow.NONE, LineFlow.NONE, LineFlow.NONE);
    }

    /** TOP and BOTTOM. */
    static void dueMargins(String what, LineFlow flow, int n, int top, int bottom) {
        due(what + ": TOP of " + n, flow.margin(n, false), top);
        due(what + ": BOTTOM of " + n, flow.margin(n, true), bottom);
    }

    /** A float with a width and a height that are told. */
    static int floating(LineFlow flow, int parent, int side, int width, int height, int margin) {
        return element(flow, parent, FLOAT, side, WIDTH, width, HEIGHT, height, MARGIN, margin);
    }

    /** What a node of that kind has at first, told to it again: each answer is the same. */
    static void dueAsAtFirst(String what, LineFlow flow, int n, int kind) {
        int[] first = {kind == 0 ? 0 : 1, 0, LineFlow.NONE, LineFlow.NONE, 0, 0, 0, 0, 1};
        for (int i = 0; i < first.length; i++) {
            due(what + ": " + i + " of " + n, flow.set(n, i, first[i]), first[i]);
        }
    }

    /** The widths of all words of the latest laying; there are no more. */
    static void dueWidths(String what, LineFlow flow, int... widths) {
        due(what + ": words", flow.words(), widths.length);
        for (int i = 0; i < widths.length; i++) {
            due(what + ": width of word " + i, flow.word(i, 3), widths[i]);
        }
    }

    /** x and y of the words from the first one on, in pairs; there are no more. */
    static void dueWords(String what, LineFlow flow, int... xAndY) {
        due(what + ": words", flow.words(), xAndY.length / 2);
        for (int i = 0; i + 1 < xAndY.length; i += 2) {
            due(what + ": x of word " + i / 2, flow.word(i / 2, 1), xAndY[i]);
            due(what + ": y of word " + i / 2, flow.word(i / 2, 2), xAndY[i + 1]);
        }
    }
}
