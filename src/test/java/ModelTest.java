import java.util.Random;

/** Random runs of calls, at most 512 an object, compared with the model; wrong arguments come among them. */
public final class ModelTest {
    private static final String LETTERS = "abcdeimw.,@W l! \n |jz\u00e9\t";

    private final Random random;
    private final LineFlow flow = new LineFlow();
    private final FlowModel model = new FlowModel();
    private final String name;
    private int calls = 0;
    private int nodes = 1;

    private ModelTest(long seed) {
        random = new Random(seed);
        name = "seed " + seed + " ";
    }

    private void same(String call, int got, int want) {
        calls++;
        Check.due(name + "call " + calls + " " + call, got, want);
    }

    private void feed() {
        int[] five = new int[5];
        for (int i = 0; i < 20; i++) {
            five[i / 4] = five[i / 4] << 8 | LETTERS.charAt(random.nextInt(LETTERS.length()));
        }
        same("feed", flow.feed(five[0], five[1], five[2], five[3], five[4]),
                model.feed(five[0], five[1], five[2], five[3], five[4]));
    }

    private void end(int n) {
        same("end(" + n + ")", flow.end(n), model.end(n));
    }

    private int node(int parent, int kind) {
        int got = flow.node(parent, kind);
        same("node(" + parent + ", " + kind + ")", got, model.node(parent, kind));
        nodes = Math.max(nodes, got + 1);
        return got;
    }

    private void text(int n) {
        same("text(" + n + ")", flow.text(n), model.text(n));
    }

    private void set(int n, int what, int v) {
        same("set(" + n + ", " + what + ", " + v + ")", flow.set(n, what, v), model.set(n, what, v));
    }

    private void write(int n) {
        int feeds = random.nextInt(3);
        for (int i = 0; i < feeds; i++) {
            feed();
        }
        if (feeds > 0) {
            end(random.nextInt(20 * feeds + 1));
        }
        text(n);
    }

    private void change(int n) {
        int what = random.nextInt(9);
        int v;
        switch (what) {
            case 0: v = random.nextInt(4); break;
            case 1: v = random.nextInt(3); break;
            case 2: v = random.nextInt(3) == 0 ? 1000 + random.nextInt(101) : random.nextInt(60) - 1; break;
            case 3: v = random.nextInt(30) - 1; break;
            case 4: v = random.nextInt(12); break;
            case 5: v = random.nextInt(3); break;
            case 6: v = random.nextInt(4); break;
            case 7: v = random.nextInt(3); break;
            default: v = 1 + random.nextInt(2); break;
        }
        set(n, what, v);
    }

    private void wrongCall() {
        int[] odd = {-1, -2, 0, 1, 2, 3, 4, 5, 9, 12, 19, 20, 50, 51, 59, 60, 61, 120, 121, 400, 401, 999, 1000, 1100,
            1101, Integer.MAX_VALUE, Integer.MIN_VALUE};
        int a = odd[random.nextInt(odd.length)];
        int b = odd[random.nextInt(odd.length)];
        int c = odd[random.nextInt(odd.length)];
        switch (random.nextInt(10)) {
            case 0: end(a); break;
            case 1: node(a, b); break;
            case 2: text(a); break;
            case 3: set(a, b, c); break;
            case 4: set(random.nextInt(nodes), random.nextInt(9), c); break;
            case 5: same("lay(" + a + ")", flow.lay(a), model.lay(a)); break;
            case 6: same("box(" + a + ", " + b + ")", flow.box(a, b), model.box(a, b)); break;
            case 7: same("word(" + a + ", " + b + ")", flow.word(a, b), model.word(a, b)); break;
            case 8: same("line(" + a + ")", flow.line(a), model.line(a)); break;
            default: same("margin(" + a + ")", flow.margin(a, b > 3), model.margin(a, b > 3)); break;
        }
    }

    private void build(int count) {
        int deepest = 0;
        for (int i = 0; i < count; i++) {
            int parent = random.nextInt(3) == 0 ? random.nextInt(nodes) : random.nextInt(3) == 0 ? 0 : deepest;
            int kind = new int[] {0, 0, 0, 1, 1, 1, 2, 3}[random.nextInt(8)];
            int n = node(parent, kind);
            if (n < 0) {
                continue;
            }
            if (kind == 0 && random.nextInt(2) == 0) {
                deepest = n;
            }
            if (kind == 1) {
                write(n);
            }
            for (int k = random.nextInt(4); k > 0; k--) {
                change(n);
            }
        }
    }

    /** What is laid and what is now, whole; it changes nothing, so it is beyond the count of calls that matter. */
    private void compareAll() {
        Check.due(name + "words()", flow.words(), model.words());
        for (int i = -1; i <= flow.words(); i++) {
            for (int what = -1; what <= 7; what++) {
                Check.due(name + "word(" + i + ", " + what + ")", flow.word(i, what), model.word(i, what));
            }
        }
        for (int n = -1; n <= nodes; n++) {
            for (int what = -1; what <= 4; what++) {
                Check.due(name + "box(" + n + ", " + what + ")", flow.box(n, what), model.box(n, what));
            }
            Check.due(name + "line(" + n + ")", flow.line(n), model.line(n));
            Check.due(name + "margin(" + n + ", false)", flow.margin(n, false), model.margin(n, false));
            Check.due(name + "margin(" + n + ", true)", flow.margin(n, true), model.margin(n, true));
        }
    }

    private void run() {
        for (int round = 0; round < 4; round++) {
            build(4 + random.nextInt(14));
            for (int i = random.nextInt(6); i > 0; i--) {
                change(random.nextInt(nodes));
            }
            int w = random.nextInt(3) == 0 ? 20 + random.nextInt(381) : 20 + random.nextInt(60);
            same("lay(" + w + ")", flow.lay(w), model.lay(w));
            compareAll();
            for (int i = random.nextInt(5); i > 0; i--) {
                wrongCall();
            }
            compareAll();
            if (random.nextInt(6) == 0) {
                flow.clear();
                model.clear();
                nodes = 1;
                compareAll();
            }
        }
    }

    public static void main(String[] args) {
        int runs = args.length > 0 ? Integer.parseInt(args[0]) : 3000;
        for (int seed = 1; seed <= runs; seed++) {
            new ModelTest(seed).run();
        }
        Check.finish();
    }
}
