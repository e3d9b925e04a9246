/** Promise 10: how many words there were, in the tree's order. */
public final class Promise10WordsTest {
    private static void dueTexts(String what, LineFlow flow, int... texts) {
        Check.due(what + ": words", flow.words(), texts.length);
        for (int i = 0; i < texts.length; i++) {
            Check.due(what + ": text of word " + i, flow.word(i, 0), texts[i]);
        }
    }

    private static void howMany() {
        Check.sentence("how many WORDS there were");
        String[] texts = {"", " ", "\n \n", "a", " a", "a ", "a\nb", "  a  b  ", "a b c d e f g h"};
        int[] due = {0, 0, 0, 1, 1, 1, 2, 2, 8};
        for (int i = 0; i < texts.length; i++) {
            LineFlow flow = new LineFlow();
            Check.text(flow, 0, texts[i]);
            flow.lay(20);
            Check.due("'" + texts[i] + "'", flow.words(), due[i]);
        }
    }

    private static void nothingLaid() {
        Check.sentence("As it was laid latest: nothing was laid");
        LineFlow flow = new LineFlow();
        Check.text(flow, 0, "a b");
        Check.due("before any lay", flow.words(), 0);
        flow.lay(19);
        Check.due("a lay that was refused", flow.words(), 0);
        flow.lay(20);
        Check.due("laid", flow.words(), 2);
        flow.clear();
        Check.due("cleared", flow.words(), 0);
    }

    private static void asLaid() {
        Check.sentence("As it was laid latest");
        LineFlow flow = new LineFlow();
        int text = Check.text(flow, 0, "a b c");
        flow.lay(20);
        Check.text(flow, 0, "d");
        Check.tape(flow, "e");
        flow.text(text);
        Check.due("before the next lay", flow.words(), 3);
        Check.due("refused", flow.lay(401), LineFlow.NONE);
        Check.due("a refused lay", flow.words(), 3);
        flow.lay(20);
        Check.due("laid again", flow.words(), 2);
    }

    private static void treeOrder() {
        Check.sentence("in the tree's order");
        LineFlow flow = new LineFlow();
        int first = Check.element(flow, 0);
        int behind = Check.text(flow, 0, "z");
        int aFloat = Check.element(flow, 0, Check.FLOAT, 1);
        int last = Check.text(flow, 0, "y");
        int inFirst = Check.text(flow, first, "a b");
        int inFloat = Check.text(flow, aFloat, "f");
        flow.lay(40);
        dueTexts("as they lie", flow, inFirst, inFirst, behind, inFloat, last);
        Check.dueWords("the float waits, its word does not", flow, 0, 0, 7, 0, 0, 7, 0, 14, 4, 7);
    }

    private static void notOfFlex() {
        Check.sentence("(those of a FLEX's own TEXTS not)");
        LineFlow flow = new LineFlow();
        int flex = Check.element(flow, 0, Check.DISPLAY, 2);
        int own = Check.text(flow, flex, "a b");
        int item = Check.element(flow, flex);
        int inItem = Check.text(flow, item, "c d");
        int inline = Check.element(flow, flex, Check.DISPLAY, 1);
        int inInline = Check.text(flow, inline, "e");
        int inner = Check.element(flow, flex, Check.DISPLAY, 2);
        Check.text(flow, inner, "f");
        flow.lay(60);
        dueTexts("what lies in its elements", flow, inItem, inItem, inInline);
        flow.set(flex, Check.DISPLAY, 0);
        flow.lay(60);
        dueTexts("no flex any more", flow, own, own, inItem, inItem, inInline);
    }

    private static void flexWithinInline() {
        Check.sentence("What would be a BLOCK within an inline ELEMENT is as inline there: no FLEX");
        LineFlow flow = new LineFlow();
        int inline = Check.element(flow, 0, Check.DISPLAY, 1);
        int flex = Check.element(flow, inline, Check.DISPLAY, 2);
        int own = Check.text(flow, flex, "a b");
        Check.due("height", flow.lay(60), 7);
        dueTexts("as inline", flow, own, own);
    }

    private static void none() {
        Check.sentence("WORDS there were: none of what has DISPLAY none");
        LineFlow flow = new LineFlow();
        int gone = Check.element(flow, 0, Check.DISPLAY, 3);
        Check.text(flow, gone, "a b");
        int deep = Check.element(flow, gone);
        Check.text(flow, deep, "c");
        int shown = Check.text(flow, 0, "d");
        flow.lay(60);
        dueTexts("none", flow, shown);
    }

    /** 59 texts of 60 words in 472 calls. */
    private static void most() {
        Check.sentence("NODES, at most 60; TEXTS of at most 120 bytes: the most WORDS there can be");
        LineFlow flow = new LineFlow();
        for (int i = 0; i < 59; i++) {
            Check.text(flow, 0, "a ".repeat(60));
        }
        Check.due("height", flow.lay(20), 3540 / 3 * 7);
        Check.due("words", flow.words(), 3540);
        Check.due("the last one's text", flow.word(3539, 0), 59);
        Check.due("the last one's y", flow.word(3539, 2), 1179 * 7);
        Check.due("no more", flow.word(3540, 0), LineFlow.NONE);
    }

    public static void main(String[] args) {
        howMany();
        nothingLaid();
        asLaid();
        treeOrder();
        notOfFlex();
        flexWithinInline();
        none();
        most();
        Check.finish();
    }
}
