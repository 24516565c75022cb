/** Promises 1 to 6: a new object, feed, end, fault, grammar, breaks. */
public final class TextTest {
    private static final Calls C = new Calls();

    private static String times(String s, int n) {
        return s.repeat(n);
    }

    private static void grammarFault(String text, int want) {
        TreeMerge x = new TreeMerge();
        Calls.say(x, text);
        C.due("fault(false) of '" + text + "'", x.fault(false), want);
        C.due("grammar() of '" + text + "'", x.grammar() != -1, want == -1);
        C.due("bytes behind grammar() of '" + text + "'", x.count(3), want == -1 ? 0 : text.length());
    }

    private static void treeFault(String text, int want) {
        TreeMerge x = Calls.with("doc = par* ; par = par* ; tag leaf ;");
        Calls.say(x, text);
        C.due("fault(true) of '" + text + "'", x.fault(true), want);
        C.due("first() of '" + text + "'", x.first() != -1, want == -1);
        C.due("bytes behind first() of '" + text + "'", x.count(3), want == -1 ? 0 : text.length());
    }

    private static void breaks(String grammar, String tree, int want) {
        TreeMerge x = Calls.with(grammar);
        Calls.say(x, tree);
        C.due("breaks() of '" + tree + "' in '" + grammar + "'", x.breaks(), want);
        C.due("first() of '" + tree + "' in '" + grammar + "'", x.first() != -1, want == -1);
    }

    private static void newObject() {
        TreeMerge x = new TreeMerge();
        for (int what = 0; what <= 5; what++) C.due("new: count(" + what + ")", x.count(what), 0);
        C.due("new: node", x.node(0, -1), -1);
        C.due("new: quarrel", x.quarrel(-1), 0);
        C.due("new: breaks", x.breaks(), -1);
        C.due("new: match", x.match(0, 0), -1);
        C.due("new: of the draft", x.of(12, 0, 0), -1);
        C.due("new: fault(true)", x.fault(true), 0);
        C.due("new: fault(false)", x.fault(false), 0);
    }

    private static void feedAndEnd() {
        TreeMerge x = new TreeMerge();
        C.due("end(1) of nothing", x.end(1), false);
        C.due("end(-1)", x.end(-1), false);
        for (int i = 1; i <= 25; i++) C.due("feed " + i, x.feed(0, -1, 7, 0x61626364, 1 << 31), 20 * i);
        C.due("feed to 520", x.feed(0, 0, 0, 0, 0), -1);
        C.due("bytes", x.count(3), 500);
        C.due("end(501)", x.end(501), false);
        C.due("end(500)", x.end(500), true);
        C.due("end(481)", x.end(481), true);
        C.due("feed to 501", x.feed(0, 0, 0, 0, 0), -1);
        C.due("bytes", x.count(3), 481);
        C.due("end(480)", x.end(480), true);
        C.due("feed to 500", x.feed(0, 0, 0, 0, 0), 500);
        C.due("end(min)", x.end(Integer.MIN_VALUE), false);
        C.due("end(max)", x.end(Integer.MAX_VALUE), false);
        C.due("bytes", x.count(3), 500);
        TreeMerge y = new TreeMerge();
        y.feed(0x61206c65, 0x61663b20, 0x20202020, 0x20202020, 0x2020202a);
        C.due("the highest byte comes first", y.fault(false), 19);
        y.end(19);
        C.due("a leaf; is a grammar", y.grammar(), 1);
    }

    private static void grammarFaults() {
        grammarFault("", 0);
        grammarFault("  \n ", 4);
        grammarFault("a leaf;", -1);
        grammarFault(" a\nleaf ; ", -1);
        grammarFault("a", 1);
        grammarFault("a ", 2);
        grammarFault("a leaf", 6);
        grammarFault("a leaf b", 7);
        grammarFault("a leafb ;", 2);
        grammarFault("a leaf ; b", 10);
        grammarFault("a leaf ; ;", 9);
        grammarFault("a leaf ; 1", 9);
        grammarFault("a leaf ; \t", 9);
        grammarFault("a xeaf ;", 2);
        grammarFault("a lea ;", 2);
        grammarFault("a sex a ;", 2);
        grammarFault("leaf leaf ;", 0);
        grammarFault("set leaf ;", 0);
        grammarFault("a set ;", 6);
        grammarFault("a set", 5);
        grammarFault("a set a", 7);
        grammarFault("a set a a ;", -1);
        grammarFault("a set set ;", 6);
        grammarFault("a set leaf ;", 6);
        grammarFault("a set a * ;", 8);
        grammarFault("a set a = ;", 8);
        grammarFault("a = ;", 4);
        grammarFault("a = a", 5);
        grammarFault("a = a*?;", 6);
        grammarFault("a = a * a ? a;", -1);
        grammarFault("a=a*a?a;", -1);
        grammarFault("a = *a;", 4);
        grammarFault("a = leaf;", 4);
        grammarFault("a = setx; setx leaf;", -1);
        grammarFault("a = (a);", 4);
        grammarFault("a = a{x};", 5);
        grammarFault("a = a{x", 5);
        grammarFault("a {", 2);
        grammarFault("{", 0);
        grammarFault("a = A;", 4);
        grammarFault("a = a\u00e1;", 5);
        grammarFault("a leaf ; a leaf ;", 9);
        grammarFault("a = b c ; b leaf ;", 6);
        grammarFault("a = c b ; b set d ;", 4);
        grammarFault("b leaf ; a set b c ;", 17);
        grammarFault("a = b ; b", 9);
        grammarFault("a = b ; b leaf", 14);
        StringBuilder ten = new StringBuilder();
        for (char c = 'a'; c <= 'j'; c++) ten.append(c).append(" leaf;");
        grammarFault(ten.toString(), -1);
        grammarFault(ten + "k leaf;", ten.length());
        grammarFault(ten + "(", ten.length());
        grammarFault("a=" + times("a*", 248) + ";", -1);
        grammarFault("a=" + times("a ", 248) + "a;", -1);
        grammarFault("a=" + times("a ", 249), 500);
        grammarFault("a=" + times("a ", 248) + "aa", 500);
        grammarFault("a=" + times("a ", 247) + "a{aa", 497);
        String longName = times("x", 490);
        grammarFault(longName + " leaf;", -1);
    }

    private static void treeFaults() {
        treeFault("", 0);
        treeFault("   ", 3);
        treeFault("doc", -1);
        treeFault(" doc \n", -1);
        treeFault("doc{a}", -1);
        treeFault("doc {a}", -1);
        treeFault("doc {a} ( par )", -1);
        treeFault("doc(par{1}par{2}(par))", -1);
        treeFault("dox", 0);
        treeFault("docpar", 0);
        treeFault("leaf", 0);
        treeFault("(", 0);
        treeFault("{a}", 0);
        treeFault("{a", 0);
        treeFault("doc par", 4);
        treeFault("doc)", 3);
        treeFault("doc(par))", 8);
        treeFault("doc(par){a}", 8);
        treeFault("doc(par){a", 8);
        treeFault("doc(par) {", 9);
        treeFault("doc{a}{b}", 6);
        treeFault("doc{a}{b", 6);
        treeFault("doc{a}b", 6);
        treeFault("doc{", 4);
        treeFault("doc{a", 5);
        treeFault("doc {abcdefgh", 13);
        treeFault("doc {abcdefghi", 4);
        treeFault("doc{abcdefghi}", 3);
        treeFault("doc{abcdefgh}", -1);
        treeFault("doc{}", 3);
        treeFault("doc{a }", 3);
        treeFault("doc{a ", 3);
        treeFault("doc{ ", 3);
        treeFault("doc{A}", 3);
        treeFault("doc{09az}", -1);
        treeFault("doc(", 4);
        treeFault("doc()", 4);
        treeFault("doc(par", 7);
        treeFault("doc(par ", 8);
        treeFault("doc(par{", 8);
        treeFault("doc(par{x}", 10);
        treeFault("doc(par,par)", 7);
        treeFault("doc(par*)", 7);
        treeFault("doc(par (", 9);
        treeFault("doc(par doc2)", 11);
        treeFault("doc(par xyz)", 8);
        treeFault("doc" + times("(par", 7) + times(")", 7), -1);
        treeFault("doc" + times("(par", 7) + "(par", 31);
        treeFault("doc(par" + times("(par", 6) + times(")", 6) + times("(par", 1), 7 + 24 + 6);
        treeFault("doc(" + times("par ", 23) + ")", -1);
        treeFault("doc(" + times("par ", 24) + ")", 4 + 23 * 4);
        treeFault("doc(" + times("par ", 23) + "{", 4 + 23 * 4 + 1);
        treeFault("doc(" + times("par ", 22) + "par(par", 4 + 22 * 4 + 4);
        treeFault(times(" ", 497) + "doc", -1);
        treeFault(times(" ", 494) + "doc{ab", 500);
        treeFault(times(" ", 494) + "doc{a}", -1);
        TreeMerge y = Calls.with("doc = par* ; par = par* ;");
        Calls.say(y, "docpar");
        y.end(3);
        C.due("what is cut off is no more there", y.fault(true), -1);
        Calls.say(y, "doc{a}");
        y.end(5);
        C.due("nor is what would end a word", y.fault(true), 5);
        TreeMerge x = new TreeMerge();
        Calls.say(x, "doc");
        C.due("without a grammar no name is of a kind", x.fault(true), 0);
        Calls.say(x, " {");
        C.due("without a grammar, {", x.fault(true), 1);
    }

    private static void grammarOnce() {
        TreeMerge x = new TreeMerge();
        Calls.say(x, "b leaf ; a leaf ;");
        C.due("grammar()", x.grammar(), 2);
        C.due("bytes", x.count(3), 0);
        Calls.say(x, "a leaf ; b leaf ; c leaf ;");
        C.due("fault(false) with a grammar", x.fault(false), -1);
        C.due("grammar() again", x.grammar(), -1);
        C.due("it stays", x.count(3), 26);
        C.due("kinds", x.count(0), 2);
        C.due("kind 0 is still b", Calls.first(x, "b"), 0);
        C.due("kind of b", x.of(0, 0, 0), 0);
        Calls.say(x, "a");
        C.due("a is of kind 1", x.breaks(), 0);
    }

    private static void fitting() {
        String g = "doc = head? par* foot ; head leaf ; par set tag head ; foot leaf ; tag = tag? tag? head* tag ;";
        breaks(g, "doc(foot)", -1);
        breaks(g, "doc", 0);
        breaks(g, "foot", 0);
        breaks(g, "tag(par)", 0);
        breaks(g, "doc(head foot)", -1);
        breaks(g, "doc(head head foot)", 0);
        breaks(g, "doc(head par par par foot)", -1);
        breaks(g, "doc(par head foot)", 0);
        breaks(g, "doc(foot foot)", 0);
        breaks(g, "doc(foot(par))", 1);
        breaks(g, "doc(head(foot) foot)", 1);
        // a tag without a tag in it doesn't fit; it is behind head{a} in the order
        breaks(g, "doc(par(head tag(tag) head{a}) foot)", 5);
        breaks(g, "doc(par(head head) foot)", 1);
        breaks(g, "doc(par(head{a} head{a}) foot)", 1);
        breaks(g, "doc(par(head{a} head) foot)", -1);
        breaks(g, "doc(par(head(head)) foot)", 2);
        breaks(g, "doc(par(foot) foot)", 1);
        breaks(g, "doc(par(tag{b}(foot) tag{a}(tag)) foot)", 3);
        // kinds are ahead of words: head{b} has place 2, tag{b} place 3
        breaks(g, "doc(par(tag{b}(foot) head{b}) foot)", 3);
        breaks("d = a* a b? b? a* ; a leaf ; b leaf ;", "d", 0);
        breaks("d = a* a b? b? a* ; a leaf ; b leaf ;", "d(a)", -1);
        breaks("d = a* a b? b? a* ; a leaf ; b leaf ;", "d(a a a)", -1);
        breaks("d = a* a b? b? a* ; a leaf ; b leaf ;", "d(a b b a a)", -1);
        breaks("d = a* a b? b? a* ; a leaf ; b leaf ;", "d(a b b b a)", 0);
        breaks("d = a* a b? b? a* ; a leaf ; b leaf ;", "d(b a)", 0);
        breaks("d = a* a b? b? a* ; a leaf ; b leaf ;", "d(a b a b)", 0);
        breaks("d = a ? b ; a leaf ; b leaf ;", "d(b)", -1);
        breaks("d = a b ; a leaf ; b leaf ;", "d(b a)", 0);
        breaks("d = a b ; a leaf ; b leaf ;", "d(a b)", -1);
        breaks("d set a ; b = c* ; a leaf ; c leaf ;", "d(c)", 0);
        breaks("d = a? ; b = a* ; a leaf ;", "d(a a)", 0);
        breaks("d set d ;", "d(d(d d{a}) d{a}(d))", -1);
        // d's children in order: d, then d{a}; the third node is the outermost's second child
        breaks("d set d ;", "d(d{a}(d d) d)", 2);
        TreeMerge x = Calls.with(g);
        Calls.say(x, "doc(");
        C.due("breaks() with a fault", x.breaks(), -1);
        x.end(0);
        C.due("breaks() of nothing", x.breaks(), -1);
    }

    private static void manyItems() {
        TreeMerge x = Calls.with("a=" + times("b*", 240) + "c;c leaf;b leaf;");
        Calls.say(x, "a(" + times("b ", 22) + "c)");
        C.due("b*b*..", x.breaks(), -1);
        Calls.say(x, "a(" + times("b ", 22) + ")");
        C.due("b*b*.. without c", x.breaks(), 0);
        TreeMerge y = Calls.with("a=" + times("b?", 12) + times("b ", 11) + ";b leaf;");
        Calls.say(y, "a(" + times("b ", 23) + ")");
        C.due("23 of 11 to 23", y.breaks(), -1);
        Calls.say(y, "a(" + times("b ", 11) + ")");
        C.due("11 of 11 to 23", y.breaks(), -1);
        Calls.say(y, "a(" + times("b ", 10) + ")");
        C.due("10 of 11 to 23", y.breaks(), 0);
    }

    public static void main(String[] args) {
        newObject();
        feedAndEnd();
        grammarFaults();
        treeFaults();
        grammarOnce();
        fitting();
        manyItems();
        C.finish("TextTest");
    }
}
