/** Promises 24 to 33: node, of, word, writer, name, same, print, parent, from, count. */
public final class TellTest {
    private static final Calls C = new Calls();
    private static final String G = "doc = head? par* tags? ; head leaf ; par = par* ; tags set tag ; tag leaf ;";
    private static final int[] FAR = {-2, -1000, Integer.MIN_VALUE, Integer.MAX_VALUE, 1000, 150, 13, 11};

    private static TreeMerge started() {
        TreeMerge x = Calls.with(G);
        // doc 0, head{h} 1, par 2, par{b1} 3, par{abcdefgh} 4, tags 5, tag 6, tag{t} 7
        Calls.first(x, "doc(head{h} par(par{b1}) par{abcdefgh} tags(tag{t} tag))");
        return x;
    }

    private static void nodes() {
        TreeMerge x = started();
        C.due("how many", x.node(0, -1), 8);
        C.due("the first", x.node(0, 0), 0);
        C.due("the last", x.node(0, 7), 7);
        C.due("behind it", x.node(0, 8), -1);
        C.due("no such edition", x.node(1, -1), -1);
        C.due("edition -1", x.node(-1, -1), -1);
        for (int far : FAR) {
            C.due("node(0, " + far + ")", x.node(0, far), -1);
            C.due("node(" + far + ", 0)", x.node(far, 0), -1);
        }
        x.begin(0);
        C.due("the draft is no edition here", x.node(12, -1), -1);
        C.due("nor for its numbers", x.node(12, 0), -1);
        C.due("an order that isn't the numbers'", Calls.next(x, 0, "doc(par{abcdefgh} par(par{b1} par{n}))"), 1);
        C.due("the numbers", Calls.numbers(x, 1), "0 4 2 3 8");
    }

    private static void about() {
        TreeMerge x = started();
        int[][] due = {
            {0, -1, 0, 4, -2, 0, 1}, {1, 0, 0, 0, -2, 0, 2}, {2, 0, 1, 1, -2, 0, 2}, {2, 2, 0, 0, -2, 0, 3},
            {2, 0, 2, 0, -2, 0, 2}, {3, 0, 3, 2, -2, 0, 2}, {4, 5, 0, 0, -2, 0, 3}, {4, 5, 1, 0, -2, 0, 3},
        };
        for (int n = 0; n < due.length; n++) {
            for (int what = 0; what <= 6; what++) {
                if (what != 4) C.due("of(0, " + n + ", " + what + ")", x.of(0, n, what), due[n][what]);
            }
        }
        C.due("of(0, 0, 7)", x.of(0, 0, 7), -1);
        C.due("of(0, 0, -1)", x.of(0, 0, -1), -1);
        C.due("of(0, 8, 0)", x.of(0, 8, 0), -1);
        C.due("of(0, -1, 1)", x.of(0, -1, 1), -1);
        C.due("of(1, 0, 0)", x.of(1, 0, 0), -1);
        C.due("of(12, 0, 0) without a draft", x.of(12, 0, 0), -1);
        for (int far : FAR) {
            C.due("of(0, 0, " + far + ")", x.of(0, 0, far), -1);
            C.due("of(0, " + far + ", 0)", x.of(0, far, 0), -1);
            C.due("of(" + far + ", 0, 0)", x.of(far, 0, 0), -1);
        }
        // 7 + 4; the leaf without a word
        C.due("the name of tag", x.of(0, 6, 4), 11);
        C.due("the name of tag{t}", x.of(0, 7, 4), 11 * 31 + 't');
        C.due("the name of tags", x.of(0, 5, 4), (10 * 37 + 12) * 37 + 11 * 31 + 't' + 1);
        x.begin(0);
        C.due("put", x.put(2, 0, 2, 'z'), 8);
        C.due("the draft: kind", x.of(12, 8, 0), 2);
        C.due("the draft: parent", x.of(12, 8, 1), 2);
        C.due("the draft: place", x.of(12, 3, 2), 1);
        C.due("the draft: children", x.of(12, 2, 3), 2);
        C.due("the draft: name", x.of(12, 8, 4), 9 * 31 + 'z');
        C.due("the draft: no writer", x.of(12, 3, 5), -1);
        C.due("the draft: how deep", x.of(12, 8, 6), 3);
        C.due("the draft: others", x.of(12, 8, 7), -1);
        C.due("the draft: none such", x.of(12, 9, 0), -1);
        C.due("not in the edition", x.of(0, 8, 0), -1);
        C.due("the edition is as it was", x.of(0, 2, 3), 1);
    }

    private static void wordsAndWriters() {
        TreeMerge x = started();
        C.due("word of head", x.word(0, 1), 'h');
        C.due("no word", x.word(0, 2), 0);
        C.due("two bytes", x.word(0, 3), 'b' * 256 + '1');
        C.due("eight bytes", x.word(0, 4), 0x6162636465666768L);
        C.due("none such", x.word(0, 8), 0);
        C.due("no such edition", x.word(1, 1), 0);
        C.due("no draft", x.word(12, 1), 0);
        for (int far : FAR) {
            C.due("word(0, " + far + ")", x.word(0, far), 0);
            C.due("word(" + far + ", 1)", x.word(far, 1), 0);
            C.due("writer(" + far + ")", x.writer(far), -1);
        }
        C.due("writer(-1)", x.writer(-1), -1);
        C.due("writer(0)", x.writer(0), 0);
        C.due("writer(7)", x.writer(7), 0);
        C.due("writer(8)", x.writer(8), -1);
        x.begin(0);
        x.rename(1, 'g');
        x.rename(3, 0);
        x.rename(0, '0');
        C.due("the draft's word", x.word(12, 1), 'g');
        C.due("the edition's is as it was", x.word(0, 1), 'h');
        C.due("close", x.close(), 1);
        C.due("written there", x.of(1, 1, 5), 1);
        C.due("the outermost's, too", x.of(1, 0, 5), 1);
        C.due("no word, written there", x.of(1, 3, 5), 1);
        C.due("as before", x.of(1, 4, 5), 0);
        x.begin(1);
        x.rename(1, 'h');
        C.due("close", x.close(), 2);
        C.due("the old word again is new", x.of(2, 1, 5), 2);
        C.due("over two editions", x.of(2, 3, 5), 1);
        C.due("the outermost's over two editions", x.of(2, 0, 5), 1);
        x.begin(0);
        x.rename(1, 'g');
        C.due("close", x.close(), 3);
        C.due("merged", x.merge(3, 1), 4);
        C.due("the first parent's writer", x.of(4, 1, 5), 3);
        C.due("the second's, where the first hasn't it", x.of(4, 3, 5), 1);
        C.due("a writer stays the same later", x.of(3, 4, 5), 0);
    }

    private static void namesAndLikeness() {
        TreeMerge x = started();
        C.due("no such edition", x.name(1), -1);
        C.due("name(-1)", x.name(-1), -1);
        C.due("the same again", Calls.first(x, "doc(head{h} par(par{b1}) par{abcdefgh} tags(tag tag{t}))"), 1);
        C.due("same names", x.name(0) == x.name(1) && x.name(0) >= 0, true);
        C.due("name is that of the outermost", x.name(1), x.of(1, 8, 4));
        C.due("same without numbers", x.same(0, 1), true);
        C.due("another word", Calls.first(x, "doc(head{h} par(par{b1}) par{abcdefg} tags(tag tag{t}))"), 2);
        C.due("not the same", x.same(0, 2), false);
        C.due("another shape", Calls.first(x, "doc(head{h} par par{b1} par{abcdefgh} tags(tag tag{t}))"), 3);
        C.due("not the same", x.same(3, 0), false);
        C.due("another order", Calls.first(x, "doc(head{h} par{abcdefgh} par(par{b1}) tags(tag tag{t}))"), 4);
        C.due("not the same", x.same(4, 0), false);
        C.due("less", Calls.first(x, "doc(head{h} par(par{b1}) par{abcdefgh} tags(tag))"), 5);
        C.due("not the same", x.same(5, 0), false);
        C.due("with itself", x.same(5, 5), true);
        C.due("none such", x.same(6, 6), false);
        C.due("none such", x.same(0, -1), false);
        C.due("none such", x.same(12, 12), false);
        C.due("a long word", Calls.first(x, "doc{zzzzzzzz}"), 6);
        long g = 7;
        for (int i = 0; i < 8; i++) g = (g * 31 + 'z') % 1000003;
        C.due("its name", x.name(6), g);
    }

    private static void printing() {
        TreeMerge x = started();
        String want = "doc(head{h} par(par{b1}) par{abcdefgh} tags(tag tag{t}))";
        C.due("how many bytes", x.print(0, -1), want.length());
        C.due("the bytes", Calls.printed(x, 0), want);
        C.due("behind them", x.print(0, want.length()), -1);
        C.due("no such edition", x.print(1, -1), -1);
        C.due("edition -1", x.print(-1, 0), -1);
        for (int far : FAR) {
            if (far != 13 && far != 11) C.due("print(0, " + far + ")", x.print(0, far), -1);
            C.due("print(" + far + ", 0)", x.print(far, 0), -1);
        }
        x.begin(0);
        C.due("the draft isn't printed", x.print(12, -1), -1);
        C.due("alone", Calls.first(x, "doc"), 1);
        C.due("printed", Calls.printed(x, 1), "doc");
        C.due("behind a name", x.print(1, 3), -1);
        C.due("alone with a word", Calls.first(x, " doc {0} "), 2);
        C.due("printed", Calls.printed(x, 2), "doc{0}");
        C.due("closing twice", Calls.first(x, "doc(par(par(par)))"), 3);
        C.due("printed", Calls.printed(x, 3), "doc(par(par(par)))");
        C.due("what is printed can be read", Calls.first(x, Calls.printed(x, 0)), 4);
        C.due("and is the same", x.same(0, 4), true);
        String name = "n".repeat(480);
        TreeMerge y = Calls.with(name + "=x*;x leaf;");
        Calls.say(y, name + "(x x)");
        C.due("a long name", y.first(), 0);
        C.due("a long name printed", Calls.printed(y, 0), name + "(x x)");
    }

    private static void descent() {
        TreeMerge x = started();
        for (int i = 1; i <= 2; i++) {
            x.begin(0);
            x.rename(i, 'k');
            x.close();
        }
        C.due("merged", x.merge(2, 1), 3);
        C.due("the first parent", x.parent(3, 0), 2);
        C.due("the second parent", x.parent(3, 1), 1);
        C.due("a third", x.parent(3, 2), -1);
        C.due("parent(3, -1)", x.parent(3, -1), -1);
        C.due("none", x.parent(0, 0), -1);
        C.due("none such", x.parent(4, 0), -1);
        C.due("none such", x.parent(-1, 0), -1);
        C.due("the draft", x.parent(12, 0), -1);
        boolean[][] from = {
            {true, false, false, false}, {true, true, false, false}, {true, false, true, false}, {true, true, true, true},
        };
        for (int i = 0; i < 4; i++) {
            for (int j = 0; j < 4; j++) C.due("from(" + i + ", " + j + ")", x.from(i, j), from[i][j]);
        }
        C.due("none such", x.from(4, 4), false);
        C.due("none such", x.from(-1, -1), false);
        for (int far : new int[] {4, 12, 32, 33, 64, -32, -31, Integer.MIN_VALUE, Integer.MAX_VALUE}) {
            C.due("from(3, " + far + ")", x.from(3, far), false);
            C.due("from(" + far + ", 0)", x.from(far, 0), false);
        }
    }

    private static void counts() {
        TreeMerge x = started();
        x.settle(0, 1, 0);
        x.settle(0, 2, 0);
        x.begin(0);
        x.put(0, 0, 1, 0);
        x.feed(1, 2, 3, 4, 5);
        int[] due = {5, 1, 9, 20, 1, 2};
        for (int what = 0; what < due.length; what++) C.due("count(" + what + ")", x.count(what), due[what]);
        C.due("count(6)", x.count(6), -1);
        C.due("count(-1)", x.count(-1), -1);
        for (int far : FAR) C.due("count(" + far + ")", x.count(far), -1);
    }

    public static void main(String[] args) {
        nodes();
        about();
        wordsAndWriters();
        namesAndLikeness();
        printing();
        descent();
        counts();
        C.due("NONE", TreeMerge.NONE, -1);
        C.finish("TellTest");
    }
}
