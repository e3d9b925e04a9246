/** Counts the answers that are not as due, and has short ways to make what tests need. */
final class Check {
    static final int DISPLAY = 0;
    static final int FLOAT = 1;
    static final int WIDTH = 2;
    static final int HEIGHT = 3;
    static final int MARGIN = 4;
    static final int BORDER = 5;
    static final int PADDING = 6;
    static final int ALIGN = 7;
    static final int SIZE = 8;

    private static int wrong = 0;

    private Check() {
    }

    static void due(String what, long got, long want) {
        if (got != want) {
            wrong++;
            if (wrong <= 50) {
                System.out.println(what + " answered " + got + ", due is " + want);
            }
        }
    }

    static void finish() {
        System.out.println(wrong == 0 ? "all answers are as due" : wrong + " answers are not as due");
        if (wrong != 0) {
            System.exit(1);
        }
    }

    /** Puts the characters of s on an empty tape. */
    static void tape(LineFlow flow, String s) {
        for (int at = 0; at < s.length(); at += 20) {
            int[] five = new int[5];
            for (int i = 0; i < 20; i++) {
                int c = at + i < s.length() ? s.charAt(at + i) & 255 : 0;
                five[i / 4] = five[i / 4] << 8 | c;
            }
            flow.feed(five[0], five[1], five[2], five[3], five[4]);
        }
        due("end of the tape", flow.end(s.length()), s.length());
    }

    static int text(LineFlow flow, int parent, String s) {
        int n = flow.node(parent, 1);
        tape(flow, s);
        due("text(" + n + ")", flow.text(n), s.length());
        return n;
    }

    static int element(LineFlow flow, int parent, int... whatAndValue) {
        return having(flow, flow.node(parent, 0), whatAndValue);
    }

    static int breakIn(LineFlow flow, int parent, int... whatAndValue) {
        return having(flow, flow.node(parent, 2), whatAndValue);
    }

    static int piece(LineFlow flow, int parent, int... whatAndValue) {
        return having(flow, flow.node(parent, 3), whatAndValue);
    }

    static int having(LineFlow flow, int n, int... whatAndValue) {
        for (int i = 0; i < whatAndValue.length; i += 2) {
            flow.set(n, whatAndValue[i], whatAndValue[i + 1]);
        }
        return n;
    }

    static void dueBox(String what, LineFlow flow, int n, int x, int y, int width, int height) {
        due(what + ": x of " + n, flow.box(n, 0), x);
        due(what + ": y of " + n, flow.box(n, 1), y);
        due(what + ": width of " + n, flow.box(n, 2), width);
        due(what + ": height of " + n, flow.box(n, 3), height);
    }

    static void dueNoBox(String what, LineFlow flow, int n) {
        dueBox(what, flow, n, LineFlow.NONE, LineFlow.NONE, LineFlow.NONE, LineFlow.NONE);
    }

    /** x and y of the words from the first one on, in pairs; there are no more. */
    static void dueWords(String what, LineFlow flow, int... xAndY) {
        due(what + ": words", flow.words(), xAndY.length / 2);
        for (int i = 0; i + 1 < xAndY.length; i += 2) {
            due(what + ": x of word " + i / 2, flow.word(i / 2, 1), xAndY[i]);
            due(what + ": y of word " + i / 2, flow.word(i / 2, 2), xAndY[i + 1]);
        }
    }
}
