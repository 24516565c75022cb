/** Part 6 of the document and promises 24 to 33: each sentence that names a bound, held at that bound. */
public final class BoundsTellTest {
    private static final Calls C = new Calls();
    private static final String G = "doc = head? par* tags? ; head leaf ; par = par* ; tags set tag ; tag leaf ;";
    private static final String TREE = "doc(head{h} par(par{b1}) par{abcdefgh} tags(tag{t} tag))";
    private static final int[] FAR = {-2, -1, 1, 11, 13, 100, Integer.MIN_VALUE, Integer.MAX_VALUE};

    /** doc 0, head{h} 1, par 2, par{b1} 3, par{abcdefgh} 4, tags 5, tag 6, tag{t} 7 */
    private static TreeMerge started() {
        TreeMerge x = Calls.with(G);
        Calls.first(x, TREE);
        return x;
    }

    private static void names() {
        C.by("THE NAME of a NODE: KIND and 7; for each byte of its WORD that times 31 and the byte; for each child in order "
                + "that times 37 and the child's NAME and 1; each time the rest by 1000003.");
        TreeMerge x = started();
        C.due("without a word and children", x.of(0, 6, 4), 11);
        C.due("with a word", x.of(0, 7, 4), 11 * 31 + 't');
        C.due("with two bytes", x.of(0, 3, 4), (9 * 31 + 'b') * 31 + '1');
        C.due("with a child", x.of(0, 2, 4), 9 * 37 + (9 * 31 + 'b') * 31 + '1' + 1);
        C.due("with two", x.of(0, 5, 4), (10 * 37 + 11 + 1) * 37 + 11 * 31 + 't' + 1);
        long g = 9;
        for (char c : "abcdefgh".toCharArray()) g = (g * 31 + c) % 1000003;
        C.due("with eight bytes", x.of(0, 4, 4), g);
        long all = 7;
        for (int n : new int[] {1, 2, 4, 5}) all = (all * 37 + x.of(0, n, 4) + 1) % 1000003;
        C.due("the rest of each", x.of(0, 0, 4), all);
        C.by("Of an EDITION that of its outermost one.");
        C.due("name(0)", x.name(0), all);
        C.by("SAME are two whose trees are, without numbers.");
        Calls.first(x, TREE);
        C.due("other numbers", x.same(0, 1), true);
        Calls.first(x, TREE.replace("b1", "b2"));
        C.due("another word", x.same(0, 2), false);
        Calls.first(x, TREE.replace("(par{b1})", " par{b1}"));
        C.due("another depth", x.same(0, 3), false);
        Calls.first(x, TREE.replace(" tag)", ")"));
        C.due("one less", x.same(0, 4), false);
        Calls.first(x, TREE.replace("head{h} ", ""));
        C.due("another kind", x.same(0, 5), false);
        C.due("one and itself", x.same(5, 5), true);
        TreeMerge y = Calls.with("doc = a* b* ; a leaf ; b leaf ;");
        Calls.first(y, "doc(a)");
        Calls.first(y, "doc(b)");
        C.due("kinds alone", y.same(0, 1), false);
    }

    private static void printing() {
        C.by("PRINTED is a TREE as a TEXT: NAME, {WORD} if it has one, and, if it has children, ( them, with one blank "
                + "between, and ).");
        String[] texts = {"doc", "doc{a}", "doc(par)", "doc{a}(par{b} par(par(par)) par)", TREE.replace("tag{t} tag", "tag tag{t}")};
        for (String text : texts) {
            TreeMerge x = Calls.with(G);
            Calls.first(x, " " + text.replace(" ", "\n ").replace("(", " ( ") + " ");
            C.due("printed", Calls.printed(x, 0), text);
        }
        C.by("PRINTED: how many bytes (k NONE), or the k-th; NONE if there is none such.");
        TreeMerge x = started();
        int bytes = TREE.length();
        C.due("how many", x.print(0, -1), bytes);
        C.due("the first", x.print(0, 0), 'd');
        C.due("the last", x.print(0, bytes - 1), ')');
        for (int k : new int[] {bytes, bytes + 1, -2, Integer.MIN_VALUE, Integer.MAX_VALUE}) {
            C.due("print(0, " + k + ")", x.print(0, k), -1);
        }
        for (int far : FAR) {
            C.due("print(" + far + ", -1)", x.print(far, -1), -1);
            C.due("print(" + far + ", 0)", x.print(far, 0), -1);
        }
        x.begin(0);
        C.due("the draft", x.print(12, -1), -1);
        C.due("without editions", new TreeMerge().print(0, -1), -1);
        TreeMerge y = Calls.with("n".repeat(480) + "=x*;x leaf;");
        Calls.first(y, "n".repeat(480) + "{a}(x{b})");
        C.due("a long name", Calls.printed(y, 0), "n".repeat(480) + "{a}(x{b})");
        String name = "n".repeat(230);
        TreeMerge z = Calls.with("d=" + name + "*;" + name + " leaf;");
        Calls.first(z, "d");
        z.begin(0);
        for (int i = 0; i < 23; i++) z.put(0, 0, 1, 0);
        C.due("close", z.close(), 1);
        int much = 3 + 23 * 230 + 22;
        C.due("far over 500 bytes", z.print(1, -1), much);
        C.due("its last name's last byte", z.print(1, much - 2), 'n');
        C.due("its last byte", z.print(1, much - 1), ')');
        C.due("behind it", z.print(1, much), -1);
    }

    private static void writersOfWords() {
        C.by("WRITER of a WORD in an EDITION: the WRITER of it in its first parent that has the NODE with that WORD, "
                + "else in its second one likewise, else that EDITION.");
        TreeMerge x = Calls.with("doc = par* ; par = par* ;");
        Calls.first(x, "doc(par{a} par{b} par)");
        Calls.edit(x, 0, "r1k", "r2l");
        Calls.edit(x, 0, "r1k", "p0 3 1n");
        C.due("without parents", x.of(0, 1, 5), 0);
        C.due("as the parent", x.of(2, 2, 5), 0);
        C.due("none, as the parent", x.of(2, 3, 5), 0);
        C.due("another than the parent", x.of(1, 1, 5), 1);
        C.due("not in the parent", x.of(2, 4, 5), 2);
        C.due("merged", x.merge(2, 1), 3);
        C.due("in both: the first", x.of(3, 1, 5), 2);
        C.due("in the second alone", x.of(3, 2, 5), 1);
        C.due("in the first alone", x.of(3, 4, 5), 2);
        C.due("in both from one", x.of(3, 0, 5), 0);
        Calls.edit(x, 3, "r1a", "r2");
        C.due("an old word again", x.of(4, 1, 5), 4);
        C.due("none again", x.of(4, 2, 5), 4);
        C.due("over two", x.of(4, 4, 5), 2);
        Calls.edit(x, 0, "r3z");
        C.due("carried", x.carry(5, 3), 6);
        C.due("the word that was carried", x.of(6, 3, 5), 6);
        C.due("the others", x.of(6, 2, 5), 1);
        C.by("Of a NODE: the EDITION in which its number came (in a DRAFT: that which came of it).");
        C.due("of the first", x.writer(0) + " " + x.writer(3), "0 0");
        C.due("of a draft", x.writer(4), 2);
        C.due("next", Calls.next(x, 0, "doc(par{a} par{b} par par{new})"), 7);
        C.due("of a text", x.writer(5), 7);
    }

    private static void nodes() {
        C.by("How many NODES an EDITION has (k NONE), or the number of its k-th NODE in order; NONE if there is none such.");
        TreeMerge x = started();
        C.due("how many", x.node(0, -1), 8);
        C.due("the first", x.node(0, 0), 0);
        C.due("the last", x.node(0, 7), 7);
        for (int k : new int[] {8, 9, 24, 39, 40, 41, -2, Integer.MIN_VALUE, Integer.MAX_VALUE}) {
            C.due("node(0, " + k + ")", x.node(0, k), -1);
        }
        x.begin(0);
        C.due("the draft", x.node(12, -1) + x.node(12, 0), -2);
        x.drop();
        for (int far : FAR) C.due("node(" + far + ")", x.node(far, -1) + x.node(far, 0), -2);
        TreeMerge y = Calls.with("doc = par* ; par = par* ;");
        Calls.first(y, "doc(par par)");
        Calls.edit(y, 0, "m1 2 0");
        C.due("in order", Calls.numbers(y, 1), "0 2 1");
    }

    private static void abouts() {
        C.by("Of a NODE in an EDITION (12: the DRAFT): 0 its KIND, 1 its parent (NONE), 2 its place (0 for the outermost), "
                + "3 how many children, 4 its NAME, 5 the WRITER of its WORD (NONE in the DRAFT), 6 how deep it is.");
        TreeMerge x = started();
        x.begin(0);
        for (int edition : new int[] {0, 12}) {
            int writer = edition == 12 ? -1 : 0;
            int[][] due = {{0, -1, 0, 4, x.name(0), writer, 1}, {1, 0, 0, 0, 8 * 31 + 'h', writer, 2},
                {4, 5, 1, 0, 11 * 31 + 't', writer, 3}, {3, 0, 3, 2, x.of(0, 5, 4), writer, 2}};
            int[] nodes = {0, 1, 7, 5};
            for (int i = 0; i < nodes.length; i++) {
                for (int what = 0; what <= 6; what++) {
                    C.due("of(" + edition + ", " + nodes[i] + ", " + what + ")", x.of(edition, nodes[i], what), due[i][what]);
                }
            }
        }
        C.by("NONE for others, or if there is none such.");
        for (int edition : new int[] {0, 12}) {
            for (int what : new int[] {-1, 7, 8, 100, Integer.MIN_VALUE, Integer.MAX_VALUE}) {
                C.due("of(" + edition + ", 0, " + what + ")", x.of(edition, 0, what), -1);
            }
            for (int node : new int[] {-1, 8, 150, Integer.MIN_VALUE, Integer.MAX_VALUE}) {
                for (int what = 0; what <= 6; what++) C.due("of(" + edition + ", " + node + ")", x.of(edition, node, what), -1);
            }
        }
        x.take(7);
        C.due("no more in the draft", x.of(12, 7, 0), -1);
        C.due("but in the edition", x.of(0, 7, 0), 4);
        x.put(0, 0, 1, 0);
        C.due("in the draft", x.of(12, 8, 0), 1);
        C.due("but not in the edition", x.of(0, 8, 0), -1);
        x.drop();
        for (int what = 0; what <= 6; what++) {
            C.due("without a draft", x.of(12, 0, what), -1);
            for (int far : FAR) C.due("of(" + far + ", 0, " + what + ")", x.of(far, 0, what), -1);
        }
    }

    private static void words() {
        C.by("its bytes as for put(), the last one the lowest; 0 without, or if there is none such.");
        TreeMerge x = started();
        C.due("one byte", x.word(0, 1), 'h');
        C.due("two", x.word(0, 3), 'b' << 8 | '1');
        C.due("eight", x.word(0, 4), 0x6162636465666768L);
        C.due("without", x.word(0, 2), 0);
        C.due("no draft", x.word(12, 1), 0);
        for (int far : FAR) {
            C.due("word(" + far + ", 1)", x.word(far, 1), 0);
            if (far != 1) C.due("word(0, " + far + ")", x.word(0, far), 0);
        }
        C.due("node 8 of 8", x.word(0, 8), 0);
        x.begin(0);
        C.due("the draft's", x.word(12, 4), 0x6162636465666768L);
        x.rename(4, 0x7a00000000000030L);
        C.due("the draft's, renamed", x.word(12, 4), 'z' << 8 | '0');
        C.due("the edition's", x.word(0, 4), 0x6162636465666768L);
        C.due("none such in the draft", x.word(12, 8), 0);
    }

    private static void writers() {
        C.by("The WRITER of a NODE: the EDITION in which its number came; NONE if there is none such, or its DRAFT wasn't "
                + "closed.");
        TreeMerge x = new TreeMerge();
        C.due("without nodes", x.writer(0), -1);
        x = started();
        C.due("the first", x.writer(0), 0);
        C.due("the last", x.writer(7), 0);
        for (int node : new int[] {-1, 8, 149, 150, 151, Integer.MIN_VALUE, Integer.MAX_VALUE}) {
            C.due("writer(" + node + ")", x.writer(node), -1);
        }
        x.begin(0);
        x.put(0, 1, 2, 0);
        C.due("of a draft that is open", x.writer(8), -1);
        x.drop();
        C.due("of a draft that was dropped", x.writer(8), -1);
        x.begin(0);
        x.put(0, 1, 2, 0);
        x.put(0, 1, 2, 0);
        x.take(10);
        C.due("close", x.close(), 1);
        C.due("of a draft that was closed", x.writer(9), 1);
        C.due("of one that was taken again", x.writer(10), 1);
        C.due("of the dropped one still", x.writer(8), -1);
        TreeMerge y = Calls.with("doc = par* ; par = par* ;");
        for (int i = 0; i < 6; i++) Calls.first(y, "doc(" + "par ".repeat(23) + ")");
        Calls.first(y, "doc(par par par par par)");
        C.due("the 150th", y.writer(149), 6);
        C.due("a 151st", y.writer(150), -1);
    }

    private static void editions() {
        TreeMerge x = started();
        C.by("THE NAME of an EDITION; NONE if there is none such.");
        C.due("name(0)", x.name(0) >= 0, true);
        for (int far : FAR) C.due("name(" + far + ")", x.name(far), -1);
        x.begin(0);
        C.due("the draft", x.name(12), -1);
        C.by("Whether two EDITIONS are SAME; false if there are none such.");
        C.due("same(0, 0)", x.same(0, 0), true);
        C.due("the draft", x.same(12, 12) || x.same(0, 12) || x.same(12, 0), false);
        for (int far : FAR) C.due("same(" + far + ")", x.same(far, far) || x.same(0, far) || x.same(far, 0), false);
        C.by("A parent (0 the first, 1 the second) of an EDITION; NONE if there is none such.");
        C.due("none", x.parent(0, 0) + x.parent(0, 1), -2);
        x.drop();
        Calls.edit(x, 0, "r1k");
        Calls.edit(x, 0, "r3k");
        x.merge(2, 1);
        C.due("one", x.parent(2, 0) + " " + x.parent(2, 1), "0 -1");
        C.due("two", x.parent(3, 0) + " " + x.parent(3, 1), "2 1");
        for (int k : new int[] {-1, 2, 3, Integer.MIN_VALUE, Integer.MAX_VALUE}) C.due("parent(3, " + k + ")", x.parent(3, k), -1);
        for (int far : new int[] {-1, 4, 11, 12, 13, Integer.MIN_VALUE, Integer.MAX_VALUE}) {
            C.due("parent(" + far + ")", x.parent(far, 0) + x.parent(far, 1), -2);
        }
        C.by("Whether an EDITION comes from another one (also from itself); false if there are none such.");
        C.due("from itself", x.from(3, 3) && x.from(0, 0), true);
        C.due("from its parents", x.from(3, 2) && x.from(3, 1), true);
        C.due("from theirs", x.from(3, 0), true);
        C.due("not the other way", x.from(0, 3) || x.from(1, 3) || x.from(1, 2) || x.from(2, 1), false);
        for (int far : new int[] {-1, 4, 11, 12, 13, 31, 32, 35, -29, Integer.MIN_VALUE, Integer.MAX_VALUE}) {
            C.due("from(" + far + ")", x.from(far, far) || x.from(3, far) || x.from(far, 0), false);
        }
    }

    private static void counts() {
        C.by("0 KINDS, 1 EDITIONS, 2 numbers of NODES that came, 3 bytes of the TEXT, 4 whether there is a DRAFT, "
                + "5 SETTLED (NODES and kinds). NONE for others.");
        TreeMerge x = started();
        C.due("kinds", x.count(0), 5);
        C.due("editions", x.count(1), 1);
        C.due("numbers", x.count(2), 8);
        C.due("bytes", x.count(3), 0);
        C.due("a draft", x.count(4), 0);
        C.due("settled", x.count(5), 0);
        Calls.say(x, "abc");
        x.begin(0);
        x.put(0, 0, 1, 0);
        x.settle(0, 1, 0);
        x.settle(0, 2, 0);
        x.settle(1, 2, 0);
        C.due("numbers", x.count(2), 9);
        C.due("bytes", x.count(3), 3);
        C.due("a draft", x.count(4), 1);
        C.due("settled", x.count(5), 3);
        for (int what : new int[] {-1, 6, 7, 12, 100, Integer.MIN_VALUE, Integer.MAX_VALUE}) {
            C.due("count(" + what + ")", x.count(what), -1);
        }
        C.by("The constants: `NONE = -1`: There is none.");
        C.due("NONE", TreeMerge.NONE, -1);
    }

    /** The 512th call of an object is the last of which the document says what it answers. */
    private static void lastCall() {
        C.by("An object is used for at most 512 calls after it has been made; what later calls answer is free.");
        TreeMerge x = new TreeMerge();
        String grammar = "a=b*;b leaf;";
        int[] five = Calls.five(grammar, 0);
        x.feed(five[0], five[1], five[2], five[3], five[4]);
        x.end(12);
        x.grammar();
        five = Calls.five("a(b b b)", 0);
        x.feed(five[0], five[1], five[2], five[3], five[4]);
        x.first();
        x.begin(0);
        for (int call = 7; call <= 511; call++) {
            C.due("call " + call, x.move(1 + call % 3, 0, call % 2), true);
        }
        C.due("call 512", x.close(), 1);
    }

    public static void main(String[] args) {
        names();
        printing();
        writersOfWords();
        nodes();
        abouts();
        words();
        writers();
        editions();
        counts();
        lastCall();
        C.finish("BoundsTellTest");
    }
}
