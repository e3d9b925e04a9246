/** Promise 8: lay; lines of words and pieces. */
public final class Promise08LayLinesTest {
    private static LineFlow withText(String s) {
        LineFlow flow = new LineFlow();
        Check.text(flow, 0, s);
        return flow;
    }

    private static void glyphs() {
        Check.sentence("a byte is 2 wide (i l j . , ' : ; ! |), 5 (m w M W @), else 4, times the SIZE");
        for (int c = 0; c < 256; c++) {
            if (c == 10 || c == 32) {
                continue;
            }
            int wide = "ilj.,':;!|".indexOf(c) >= 0 ? 2 : "mwMW@".indexOf(c) >= 0 ? 5 : 4;
            LineFlow flow = withText(String.valueOf((char) c));
            for (int size = 1; size <= 4; size++) {
                flow.set(1, Check.SIZE, size);
                flow.lay(20);
                Check.dueWidths("byte " + c + " of size " + size, flow, wide * size);
            }
        }
    }

    private static void lineHeight() {
        Check.sentence("a line of SIZE s is 7 s high; the SIZE is the TEXT's");
        LineFlow flow = withText("a");
        flow.set(0, Check.SIZE, 4);
        for (int size = 1; size <= 4; size++) {
            flow.set(1, Check.SIZE, size);
            Check.due("size " + size, flow.lay(20), 7 * size);
            Check.due("its word", flow.word(0, 4), 7 * size);
        }
    }

    private static void blanks() {
        Check.sentence("WORDS are the runs of a TEXT's bytes that are not 10 or 32 (these are BLANKS)");
        for (int c = 0; c < 256; c++) {
            LineFlow flow = withText("a" + (char) c + "b");
            flow.lay(60);
            Check.due("words with byte " + c, flow.words(), c == 10 || c == 32 ? 2 : 1);
        }
        LineFlow none = withText(" \n \n");
        Check.due("blanks alone", none.lay(20), 0);
        Check.due("no words", none.words(), 0);
    }

    private static void justGoes() {
        Check.sentence("An ITEM that does not go into what is left comes onto the next LINE, whose y is the end of this one");
        LineFlow flow = withText("abc ab");
        Check.due("just goes", flow.lay(23), 7);
        Check.dueWords("just goes", flow, 0, 0, 15, 0);
        Check.due("a point less", flow.lay(22), 14);
        Check.dueWords("a point less", flow, 0, 0, 0, 7);
        LineFlow one = withText("abcde");
        Check.due("the first one just goes", one.lay(20), 7);
        Check.dueWords("the first one", one, 0, 0);
    }

    private static void unlikeHeights() {
        Check.sentence("the next LINE, whose y is the end of this one: by its height");
        LineFlow flow = withText("abcde ");
        int big = Check.text(flow, 0, "b");
        flow.set(big, Check.SIZE, 3);
        Check.text(flow, 0, "cde");
        Check.due("height", flow.lay(20), 7 + 21 + 7);
        Check.dueWords("words", flow, 0, 0, 0, 7, 0, 28);
        Check.due("24 wide", flow.lay(24), 7 + 21);
        Check.dueWords("24 wide", flow, 0, 0, 0, 7, 12, 21);
    }

    private static void betweenAnyTwo() {
        Check.sentence("LINES break between any two");
        LineFlow flow = withText("abc");
        Check.text(flow, 0, "def");
        int piece = Check.piece(flow, 0, Check.HEIGHT, 7);
        Check.due("all just go", flow.lay(32), 7);
        Check.dueWords("no blank between", flow, 0, 0, 12, 0);
        Check.dueBox("no blank ahead", flow, piece, 24, 0, 8, 7);
        Check.due("the piece does not", flow.lay(31), 14);
        Check.dueBox("onto the next line", flow, piece, 0, 7, 8, 7);
        Check.due("nor the second text", flow.lay(23), 14);
        Check.dueWords("onto the next line", flow, 0, 0, 0, 7);
        Check.dueBox("behind it", flow, piece, 12, 7, 8, 7);
    }

    private static void oneBlank() {
        Check.sentence("with BLANKS between it and the ITEM before it on its LINE one is 3 s further on");
        LineFlow flow = withText("a \n\n  b");
        flow.lay(60);
        Check.dueWords("a run of blanks", flow, 0, 0, 7, 0);
        LineFlow apart = withText("a ");
        Check.text(apart, 0, " \n");
        int inline = Check.element(apart, 0, Check.DISPLAY, 1);
        Check.text(apart, inline, " b");
        apart.lay(60);
        Check.dueWords("blanks in three texts", apart, 0, 0, 7, 0);
        String[][] texts = {{"a", " ", "b"}, {"a", "\nb", ""}, {"a ", "", "b"}, {"", "a ", "b"}, {"a", "", "b"}};
        for (int i = 0; i < texts.length; i++) {
            LineFlow three = withText(texts[i][0]);
            Check.text(three, 0, texts[i][1]);
            Check.text(three, 0, texts[i][2]);
            three.lay(60);
            Check.dueWords("one blank, case " + i, three, 0, 0, i == 4 ? 4 : 7, 0);
        }
    }

    private static void onItsLine() {
        Check.sentence("the ITEM before it on its LINE: none is ahead of the first");
        LineFlow flow = withText("  abcde abcde ");
        Check.due("height", flow.lay(20), 14);
        Check.dueWords("each is first", flow, 0, 0, 0, 7);
        LineFlow broken = withText("a ");
        Check.breakIn(broken, 0);
        Check.text(broken, 0, " b");
        broken.lay(20);
        Check.dueWords("behind a break", broken, 0, 0, 0, 7);
    }

    private static void ownSize() {
        Check.sentence("3 s further on (its own s)");
        LineFlow flow = withText("a ");
        int blanks = Check.text(flow, 0, "  ");
        int second = Check.text(flow, 0, "b ");
        int piece = Check.piece(flow, 0, Check.SIZE, 2);
        flow.set(1, Check.SIZE, 2);
        flow.set(blanks, Check.SIZE, 4);
        flow.set(second, Check.SIZE, 3);
        flow.lay(100);
        Check.due("by the word's size", flow.word(1, 1), 8 + 9);
        Check.due("by the piece's size", flow.box(piece, 0), 8 + 9 + 12 + 6);
    }

    private static void tooWide() {
        Check.sentence("without any it is put all the same");
        LineFlow flow = withText("a abcdefgh b");
        Check.due("height", flow.lay(20), 21);
        Check.dueWords("a line of its own", flow, 0, 0, 0, 7, 0, 14);
        flow.set(0, Check.PADDING, 50);
        Check.due("no width at all", flow.lay(20), 121);
        Check.dueWords("each on a line of its own", flow, 50, 50, 50, 57, 50, 64);
    }

    private static void breaks() {
        Check.sentence("A BREAK ends the LINE (one that has nothing is 7 s high by its SIZE)");
        LineFlow flow = new LineFlow();
        Check.breakIn(flow, 0, Check.SIZE, 2);
        Check.due("nothing ahead", flow.lay(40), 14);
        Check.text(flow, 0, "a");
        Check.breakIn(flow, 0, Check.SIZE, 4);
        Check.due("behind an item its size does not matter", flow.lay(40), 21);
        Check.breakIn(flow, 0, Check.SIZE, 3);
        Check.due("nothing between two", flow.lay(40), 42);
        Check.text(flow, 0, "b");
        Check.due("an item behind them", flow.lay(40), 49);
        Check.dueWords("words", flow, 0, 14, 0, 42);
    }

    private static void breakBehindBlanks() {
        Check.sentence("A BREAK ends the LINE: one with BLANKS alone has nothing");
        LineFlow flow = withText(" \n ");
        Check.breakIn(flow, 0, Check.SIZE, 3);
        Check.due("height", flow.lay(40), 21);
        LineFlow flat = new LineFlow();
        Check.piece(flat, 0, Check.WIDTH, 0, Check.HEIGHT, 0);
        Check.breakIn(flat, 0, Check.SIZE, 3);
        Check.due("one with a flat piece has something", flat.lay(40), 0);
    }

    private static void breakBehindFullLine() {
        Check.sentence("A BREAK ends the LINE: also one that is full");
        LineFlow flow = withText("abcde");
        Check.breakIn(flow, 0);
        Check.text(flow, 0, "b");
        Check.due("height", flow.lay(20), 14);
        Check.dueWords("words", flow, 0, 0, 0, 7);
    }

    private static void lowerEdge() {
        Check.sentence("A LINE is as high as its highest ITEM; they stand on its lower edge");
        LineFlow flow = withText("a");
        int big = Check.text(flow, 0, "b");
        flow.set(big, Check.SIZE, 2);
        int high = Check.piece(flow, 0, Check.HEIGHT, 20);
        int flat = Check.piece(flow, 0, Check.HEIGHT, 0);
        Check.due("height", flow.lay(60), 20);
        Check.dueWords("words", flow, 0, 13, 4, 6);
        Check.dueBox("the highest", flow, high, 12, 0, 8, 20);
        Check.dueBox("without height", flow, flat, 20, 20, 8, 0);
        LineFlow none = new LineFlow();
        Check.piece(none, 0, Check.HEIGHT, 0);
        Check.due("a line of no height", none.lay(60), 0);
    }

    private static void align() {
        Check.sentence("By ALIGN of the BLOCK 0, the half (down) or all of what is left of the LINE is ahead of its first ITEM");
        LineFlow flow = withText("abcde");
        int[][] due = {{20, 0, 0}, {21, 0, 1}, {22, 1, 2}, {23, 1, 3}, {400, 190, 380}};
        for (int[] d : due) {
            for (int align = 0; align < 3; align++) {
                flow.set(0, Check.ALIGN, align);
                flow.lay(d[0]);
                Check.dueWords("align " + align + " in " + d[0], flow, align == 0 ? 0 : d[align], 0);
            }
        }
    }

    private static void alignEachLine() {
        Check.sentence("what is left of the LINE: of each for itself, with its BLANKS between");
        LineFlow flow = withText("ab c de");
        flow.set(0, Check.PADDING, 3);
        flow.set(0, Check.ALIGN, 1);
        flow.lay(30);
        Check.dueWords("half", flow, 7, 3, 18, 3, 11, 10);
        flow.set(0, Check.ALIGN, 2);
        flow.lay(30);
        Check.dueWords("all", flow, 12, 3, 23, 3, 19, 10);
    }

    private static void alignOfBlock() {
        Check.sentence("By ALIGN of the BLOCK: not of what lies in it, or of what it lies in");
        LineFlow flow = new LineFlow();
        flow.set(0, Check.ALIGN, 2);
        int block = Check.element(flow, 0, Check.ALIGN, 1);
        int inline = Check.element(flow, block, Check.DISPLAY, 1, Check.ALIGN, 2);
        int text = Check.text(flow, inline, "ab");
        flow.set(text, Check.ALIGN, 2);
        flow.lay(20);
        Check.dueWords("half", flow, 6, 0);
    }

    private static void alignTooWide() {
        Check.sentence("what is left of the LINE: nothing, if its ITEM is wider");
        LineFlow flow = withText("abcdefgh");
        for (int align = 0; align < 3; align++) {
            flow.set(0, Check.ALIGN, align);
            flow.lay(20);
            Check.dueWords("align " + align, flow, 0, 0);
        }
    }

    private static void pieces() {
        Check.sentence("PIECES (WIDTH told, else 8; HEIGHT told, else 8");
        LineFlow flow = new LineFlow();
        int piece = Check.piece(flow, 0);
        Check.due("untold", flow.lay(20), 8);
        Check.dueBox("untold", flow, piece, 0, 0, 8, 8);
        Check.having(flow, piece, Check.WIDTH, 0, Check.HEIGHT, 0);
        Check.due("0", flow.lay(20), 0);
        Check.dueBox("0", flow, piece, 0, 0, 0, 0);
        Check.having(flow, piece, Check.WIDTH, 400, Check.HEIGHT, 400);
        Check.due("400", flow.lay(20), 400);
        Check.dueBox("400", flow, piece, 0, 0, 400, 400);
        Check.having(flow, piece, Check.WIDTH, 1, Check.HEIGHT, 2);
        Check.having(flow, piece, Check.SIZE, 4, Check.BORDER, 9, Check.PADDING, 50, Check.MARGIN, 50);
        Check.due("nothing else counts", flow.lay(20), 2);
        Check.dueBox("nothing else counts", flow, piece, 0, 0, 1, 2);
    }

    private static void shareOfPieces() {
        Check.sentence("a share of the INNER width of the BLOCK, down)");
        LineFlow flow = new LineFlow();
        int block = Check.element(flow, 0, Check.PADDING, 5, Check.WIDTH, 60);
        int inline = Check.element(flow, block, Check.DISPLAY, 1, Check.WIDTH, 10, Check.PADDING, 1);
        int piece = Check.piece(flow, inline);
        int[][] due = {{1000, 0}, {1001, 0}, {1002, 1}, {1033, 16}, {1099, 49}, {1100, 50}};
        for (int[] d : due) {
            flow.set(piece, Check.WIDTH, d[0]);
            flow.lay(100);
            Check.dueBox("width " + d[0], flow, piece, 5, 5, d[1], 8);
        }
    }

    private static void gone() {
        Check.sentence("without what has DISPLAY none: in LINES");
        LineFlow flow = withText("a");
        Check.piece(flow, 0, Check.DISPLAY, 3, Check.HEIGHT, 90);
        int gone = Check.element(flow, 0, Check.DISPLAY, 3);
        Check.text(flow, gone, " c ");
        Check.breakIn(flow, gone);
        Check.text(flow, 0, "b");
        Check.due("height", flow.lay(60), 7);
        Check.dueWords("nothing between", flow, 0, 0, 4, 0);
    }

    public static void main(String[] args) {
        glyphs();
        lineHeight();
        blanks();
        justGoes();
        unlikeHeights();
        betweenAnyTwo();
        oneBlank();
        onItsLine();
        ownSize();
        tooWide();
        breaks();
        breakBehindBlanks();
        breakBehindFullLine();
        lowerEdge();
        align();
        alignEachLine();
        alignOfBlock();
        alignTooWide();
        pieces();
        shareOfPieces();
        gone();
        Check.finish();
    }
}
