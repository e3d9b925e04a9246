import java.util.ArrayList;
import java.util.List;
import java.util.TreeMap;

/**
 * The document told again in another way, to compare with: every call builds what it answers anew from the
 * tree, sizes come before places, and nothing is reused.
 */
final class FlowModel {
    static final class Thing {
        final int number;
        final int kind;
        final Thing parent;
        final List<Thing> in = new ArrayList<>();
        final int[] has = {0, 0, -1, -1, 0, 0, 0, 0, 1};
        String text = "";

        Thing(int number, int kind, Thing parent) {
            this.number = number;
            this.kind = kind;
            this.parent = parent;
            has[0] = kind == 0 ? 0 : 1;
        }

        int deep() {
            return parent == null ? 0 : 1 + parent.deep();
        }

        int edge() {
            return has[5] + has[6];
        }

        List<Thing> shown() {
            List<Thing> shown = new ArrayList<>();
            for (Thing t : in) {
                if (t.has[0] != 3) {
                    shown.add(t);
                }
            }
            return shown;
        }

        boolean isBlock() {
            return kind == 0 && has[1] == 0 && (has[0] == 0 || has[0] == 2);
        }

        String allText() {
            StringBuilder all = new StringBuilder(text);
            for (Thing t : in) {
                all.append(t.allText());
            }
            return all.toString();
        }
    }

    /** A laid thing: places within it are relative to its own corner. */
    static final class Laid {
        Thing thing;
        int first;
        int count;
        int x;
        int y;
        int width;
        int height;
        int size;
        boolean gapAhead;
        boolean isWord;
        final List<Laid> parts = new ArrayList<>();

        int margin() {
            return thing.has[4];
        }

        int outerTop() {
            return y - margin();
        }

        int outerEnd() {
            return y + height + margin();
        }
    }

    private String tape = "";
    private List<Thing> things = new ArrayList<>();
    private int[][] boxes = new int[60][];
    private List<int[]> words = new ArrayList<>();

    FlowModel() {
        clear();
    }

    int feed(int a, int b, int c, int d, int e) {
        if (tape.length() > 380) {
            return -1;
        }
        StringBuilder more = new StringBuilder(tape);
        for (int v : new int[] {a, b, c, d, e}) {
            for (int i = 3; i >= 0; i--) {
                more.append((char) (v >> 8 * i & 255));
            }
        }
        tape = more.toString();
        return tape.length();
    }

    int end(int n) {
        if (n < 0 || n > tape.length()) {
            return -1;
        }
        tape = tape.substring(0, n);
        return n;
    }

    void clear() {
        things = new ArrayList<>();
        things.add(new Thing(0, 0, null));
        boxes = new int[60][];
        words = new ArrayList<>();
    }

    private Thing at(int n) {
        return n < 0 || n >= things.size() ? null : things.get(n);
    }

    int node(int parent, int kind) {
        Thing p = at(parent);
        if (p == null || p.kind != 0 || kind < 0 || kind > 3 || things.size() == 60 || p.deep() == 12) {
            return -1;
        }
        Thing t = new Thing(things.size(), kind, p);
        things.add(t);
        p.in.add(t);
        return t.number;
    }

    int text(int n) {
        Thing t = at(n);
        if (t == null || t.kind != 1 || tape.length() > 120) {
            return -1;
        }
        t.text = tape;
        tape = "";
        return t.text.length();
    }

    int set(int n, int what, int v) {
        Thing t = at(n);
        if (t == null || what < 0 || what > 8 || !may(t, what, v)) {
            return -2;
        }
        int was = t.has[what];
        t.has[what] = v;
        return was;
    }

    private static boolean may(Thing t, int what, int v) {
        if (what == 0) {
            String allowed = t.parent == null ? "02" : t.kind == 0 ? "0123" : t.kind == 3 ? "13" : "1";
            return v >= 0 && v <= 9 && allowed.indexOf('0' + v) >= 0;
        }
        if (what == 1) {
            return v == 0 || t.parent != null && t.kind == 0 && (v == 1 || v == 2);
        }
        if (what == 2 && v >= 1000 && v <= 1100) {
            return true;
        }
        int[] least = {0, 0, -1, -1, 0, 0, 0, 0, 1};
        int[] most = {0, 0, 400, 400, 50, 9, 50, 2, 4};
        return v >= least[what] && v <= most[what];
    }

    static int glyph(char c) {
        return "ilj.,':;!|".indexOf(c) >= 0 ? 2 : "mwMW@".indexOf(c) >= 0 ? 5 : 4;
    }

    private static int glyphs(String s) {
        int sum = 0;
        for (char c : s.toCharArray()) {
            sum += glyph(c);
        }
        return sum;
    }

    private static int oneLine(Thing t) {
        int sum = 0;
        int count = 0;
        for (String w : t.allText().split("[\n ]+")) {
            if (!w.isEmpty()) {
                sum += glyphs(w);
                count++;
            }
        }
        return (sum + 3 * Math.max(0, count - 1)) * t.has[8];
    }

    int line(int n) {
        Thing t = at(n);
        return t == null || t.kind != 0 ? -1 : oneLine(t);
    }

    private static boolean joins(Thing t, boolean below) {
        if (t.parent == null || !t.isBlock() || t.has[0] != 0 || t.has[5] != 0 || t.has[6] != 0) {
            return false;
        }
        if (t.parent.has[0] != 0 || below && t.has[3] != -1 || t.shown().isEmpty()) {
            return false;
        }
        return edgeThing(t, below).isBlock();
    }

    private static Thing edgeThing(Thing t, boolean below) {
        return t.shown().get(below ? t.shown().size() - 1 : 0);
    }

    private static int outer(Thing t, boolean below) {
        int inside = joins(t, below) ? outer(edgeThing(t, below), below) : 0;
        return Math.max(inside, t.has[4]);
    }

    int margin(int n, boolean below) {
        Thing t = at(n);
        return t == null || n == 0 || !t.isBlock() ? -1 : outer(t, below);
    }

    int lay(int w) {
        if (w < 20 || w > 400) {
            return -1;
        }
        boxes = new int[60][];
        words = new ArrayList<>();
        TreeMap<String, int[]> sorted = new TreeMap<>();
        Laid root = laid(things.get(0), w);
        settle(root, 0, 0, sorted);
        words.addAll(sorted.values());
        return root.height;
    }

    int box(int n, int what) {
        return n < 0 || n >= 60 || boxes[n] == null || what < 0 || what > 3 ? -1 : boxes[n][what];
    }

    int words() {
        return words.size();
    }

    int word(int i, int what) {
        return i < 0 || i >= words.size() || what < 0 || what > 6 ? -1 : words.get(i)[what];
    }

    private void settle(Laid l, int x, int y, TreeMap<String, int[]> sorted) {
        int atX = x + l.x;
        int atY = y + l.y;
        if (l.isWord) {
            int[] w = {l.thing.number, atX, atY, l.width, l.height, l.first, l.count};
            sorted.put(path(l.thing) + String.format("%03d", l.first), w);
        } else {
            boxes[l.thing.number] = new int[] {atX, atY, l.width, l.height};
        }
        for (Laid part : l.parts) {
            settle(part, atX, atY, sorted);
        }
    }

    /** Sorts as the tree's order does. */
    private static String path(Thing t) {
        return t.parent == null ? "" : path(t.parent) + String.format("%02d/", t.parent.in.indexOf(t));
    }

    private static int told(Thing t, int inner, int untold) {
        int w = t.has[2];
        return w == -1 ? untold : w >= 1000 ? (int) Math.floor(inner * (w - 1000) / 100.0 + 1e-9) : w;
    }

    private static int framed(Thing t, int inner, int untold) {
        return Math.max(told(t, inner, untold), 2 * t.edge());
    }

    private static Laid laidPiece(Thing t, int inner) {
        Laid l = new Laid();
        l.thing = t;
        l.width = told(t, inner, 8);
        l.height = t.has[3] == -1 ? 8 : t.has[3];
        l.size = t.has[8];
        return l;
    }

    private static Laid laid(Thing t, int width) {
        Laid l = new Laid();
        l.thing = t;
        l.width = width;
        int inner = Math.max(0, width - 2 * t.edge());
        int inside = t.has[0] == 2 ? row(l, inner) : new Column(l, inner).down();
        l.height = t.has[3] == -1 ? inside + 2 * t.edge() : Math.max(t.has[3], 2 * t.edge());
        return l;
    }

    private static int row(Laid l, int inner) {
        int x = l.thing.edge();
        int high = 0;
        for (Thing t : l.thing.shown()) {
            if (t.kind == 1 || t.kind == 2) {
                continue;
            }
            Laid part = t.kind == 3 ? laidPiece(t, inner) : laid(t, framed(t, inner, oneLine(t) + 2 * t.edge()));
            part.x = x + t.has[4];
            part.y = l.thing.edge() + t.has[4];
            l.parts.add(part);
            x = part.x + part.width + t.has[4];
            high = Math.max(high, part.height + 2 * t.has[4]);
        }
        return high;
    }

    /** What lies in one block; y counts from its inner corner while it is made. */
    private static final class Column {
        final Laid block;
        final int inner;
        final List<Laid> floats = new ArrayList<>();
        int y = 0;

        Column(Laid block, int inner) {
            this.block = block;
            this.inner = inner;
        }

        int down() {
            List<Thing> shown = block.thing.shown();
            Thing before = null;
            int reach = 0;
            for (int i = 0; i < shown.size();) {
                Thing t = shown.get(i);
                if (t.isBlock()) {
                    int top = i == 0 && joins(block.thing, false) ? 0 : outer(t, false);
                    int gap = before == null ? top : Math.max(top, outer(before, true));
                    y = Math.max(y + gap, floatsEnd());
                    Laid part = laid(t, framed(t, inner, inner - 2 * t.has[4]));
                    part.x = t.has[4];
                    part.y = y;
                    block.parts.add(part);
                    y += part.height;
                    before = t;
                    i++;
                    continue;
                }
                y += before == null ? 0 : outer(before, true);
                before = null;
                List<Object> run = new ArrayList<>();
                for (; i < shown.size() && !shown.get(i).isBlock(); i++) {
                    collect(shown.get(i), true, run);
                }
                lines(run);
            }
            reach = y + (before == null || joins(block.thing, true) ? 0 : outer(before, true));
            reach = Math.max(reach, floatsEnd());
            for (Laid part : block.parts) {
                part.x += block.thing.edge();
                part.y += block.thing.edge();
            }
            return reach;
        }

        int floatsEnd() {
            return floats.stream().mapToInt(Laid::outerEnd).max().orElse(0);
        }

        /** A run as blanks (Character), breaks and floats (Thing), words and pieces (Laid). */
        void collect(Thing t, boolean direct, List<Object> run) {
            if (direct && t.kind == 0 && t.has[1] != 0 || t.kind == 2) {
                run.add(t);
            } else if (t.kind == 0) {
                for (Thing inside : t.shown()) {
                    collect(inside, false, run);
                }
            } else if (t.kind == 3) {
                run.add(laidPiece(t, inner));
            } else {
                collectWords(t, run);
            }
        }

        void collectWords(Thing t, List<Object> run) {
            int at = 0;
            for (String s : t.text.split("(?<=[\n ])|(?=[\n ])")) {
                if (s.equals(" ") || s.equals("\n")) {
                    run.add(' ');
                } else if (!s.isEmpty()) {
                    Laid w = new Laid();
                    w.thing = t;
                    w.isWord = true;
                    w.first = at;
                    w.count = s.length();
                    w.size = t.has[8];
                    w.width = glyphs(s) * w.size;
                    w.height = 7 * w.size;
                    run.add(w);
                }
                at += s.length();
            }
        }

        void lines(List<Object> run) {
            List<Laid> line = new ArrayList<>();
            List<Thing> waiting = new ArrayList<>();
            boolean blank = false;
            for (Object o : run) {
                if (o instanceof Character) {
                    blank = true;
                } else if (o instanceof Laid item) {
                    item.gapAhead = blank;
                    blank = false;
                    if (!line.isEmpty() && filled(line) + gap(item) + item.width > right(y) - left(y)) {
                        close(line, waiting);
                    }
                    while (line.isEmpty() && item.width > right(y) - left(y) && leastEnd(y) != null) {
                        y = leastEnd(y);
                    }
                    line.add(item);
                } else if (((Thing) o).kind == 2) {
                    y += line.isEmpty() ? 7 * ((Thing) o).has[8] : 0;
                    close(line, waiting);
                } else if (line.isEmpty()) {
                    put((Thing) o);
                } else {
                    waiting.add((Thing) o);
                }
            }
            close(line, waiting);
        }

        int gap(Laid item) {
            return item.gapAhead ? 3 * item.size : 0;
        }

        int filled(List<Laid> line) {
            int sum = 0;
            for (int i = 0; i < line.size(); i++) {
                sum += line.get(i).width + (i == 0 ? 0 : gap(line.get(i)));
            }
            return sum;
        }

        void close(List<Laid> line, List<Thing> waiting) {
            if (line.isEmpty()) {
                return;
            }
            int high = line.stream().mapToInt(i -> i.height).max().orElse(0);
            int left = Math.max(0, right(y) - left(y) - filled(line));
            int x = left(y) + new int[] {0, left / 2, left}[block.thing.has[7]];
            for (int i = 0; i < line.size(); i++) {
                Laid item = line.get(i);
                item.x = x + (i == 0 ? 0 : gap(item));
                item.y = y + high - item.height;
                x = item.x + item.width;
                block.parts.add(item);
            }
            y += high;
            line.clear();
            waiting.forEach(this::put);
            waiting.clear();
        }

        void put(Thing t) {
            int m = t.has[4];
            int untold = Math.min(oneLine(t) + 2 * t.edge(), inner - 2 * m);
            Laid f = laid(t, framed(t, inner, untold));
            int at = y;
            for (Laid earlier : floats) {
                at = Math.max(at, earlier.outerTop());
            }
            while (f.width + 2 * m > right(at) - left(at) && leastEnd(at) != null) {
                at = leastEnd(at);
            }
            f.y = at + m;
            f.x = t.has[1] == 1 ? left(at) + m : right(at) - m - f.width;
            floats.add(f);
            // A copy of its place stays in floats: parts are moved to the block's corner at the end.
            Laid part = new Laid();
            part.thing = t;
            part.x = f.x;
            part.y = f.y;
            part.width = f.width;
            part.height = f.height;
            part.parts.addAll(f.parts);
            block.parts.add(part);
        }

        List<Laid> floatsAt(int at) {
            return floats.stream().filter(f -> f.outerTop() <= at && at < f.outerEnd()).toList();
        }

        int left(int at) {
            return floatsAt(at).stream().filter(f -> f.thing.has[1] == 1)
                    .mapToInt(f -> f.x + f.width + f.margin()).max().orElse(0);
        }

        int right(int at) {
            return floatsAt(at).stream().filter(f -> f.thing.has[1] == 2)
                    .mapToInt(f -> f.x - f.margin()).min().orElse(inner);
        }

        Integer leastEnd(int at) {
            return floatsAt(at).stream().map(Laid::outerEnd).min(Integer::compare).orElse(null);
        }
    }
}
