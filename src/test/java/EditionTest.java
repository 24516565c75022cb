/** Promises 7 to 9: first, match, next. */
public final class EditionTest {
    private static final Calls C = new Calls();
    private static final String PARS = "doc = par* ; par = par* ;";
    private static final String MIX = "doc = a* b* s? ; a = a* b* ; b leaf ; s set a b ;";

    /** The pairs of all nodes of the text, with x where there is none. */
    private static String pairs(TreeMerge x, int edition, int nodes) {
        StringBuilder s = new StringBuilder();
        for (int k = 0; k < nodes; k++) {
            int n = x.match(edition, 100 + k);
            s.append(k == 0 ? "" : " ").append(n == -1 ? "x" : String.valueOf(n));
        }
        return s.toString();
    }

    private static void matched(String grammar, String a, String b, int nodes, String pairs, String told) {
        TreeMerge x = Calls.with(grammar);
        Calls.first(x, a);
        Calls.say(x, b);
        String about = "'" + b + "' matched to '" + a + "'";
        C.due(about, pairs(x, 0, nodes), pairs);
        C.due(about + " behind the last", x.match(0, 100 + nodes), -1);
        C.due(about, x.match(0, 0) + " " + x.match(0, 1) + " " + x.match(0, 2), told);
    }

    private static void firsts() {
        TreeMerge x = new TreeMerge();
        Calls.say(x, "doc");
        C.due("first() without a grammar", x.first(), -1);
        x = Calls.with(MIX);
        C.due("first() of nothing", x.first(), -1);
        C.due("first() with a fault", Calls.first(x, "doc("), -1);
        C.due("first() of another kind", Calls.first(x, "a"), -1);
        C.due("first() that doesn't fit", Calls.first(x, "doc(b a)"), -1);
        C.due("the text stays", x.count(3), 8);
        C.due("nothing came", x.count(1) + x.count(2), 0);
        C.due("first()", Calls.first(x, "doc{w}(a(a b) b s(b{z} b a{y}))"), 0);
        C.due("the text is empty", x.count(3), 0);
        C.due("nodes as they come, sets in order", Calls.printed(x, 0), "doc{w}(a(a b) b s(a{y} b b{z}))");
        C.due("numbers", Calls.numbers(x, 0), "0 1 2 3 4 5 6 7 8");
        C.due("parents", x.parent(0, 0), -1);
        C.due("a second one", Calls.first(x, "doc"), 1);
        C.due("its number", x.node(1, 0), 9);
        C.due("first() of nothing again", x.first(), -1);
    }

    private static void limits() {
        TreeMerge x = Calls.with(PARS);
        String large = "doc(" + "par ".repeat(23) + ")";
        for (int i = 0; i < 6; i++) C.due("first " + i, Calls.first(x, large), i);
        C.due("150 would be passed", Calls.first(x, "doc(" + "par ".repeat(6) + ")"), -1);
        C.due("144 came", x.count(2), 144);
        C.due("the text stays", x.count(3), 29);
        C.due("next with new ones over 150", Calls.next(x, 0, "doc(par(par(par)) par(par(par)) par(par(par))"
                + " par(par(par)) par(par(par)) par(par(par)) par(par(par)))"), 6);
        C.due("none was new", x.count(2), 144);
        C.due("150 come", Calls.first(x, "doc(" + "par ".repeat(5) + ")"), 7);
        C.due("150", x.count(2), 150);
        C.due("one more", Calls.first(x, "doc"), -1);
        C.due("next() with all numbers gone", Calls.next(x, 7, "doc(" + "par ".repeat(6) + ")"), -1);
        C.due("next() with the old numbers", Calls.next(x, 7, "doc(" + "par ".repeat(5) + ")"), 8);
        TreeMerge y = Calls.with(PARS);
        for (int i = 0; i < 12; i++) C.due("of 12", i % 2 == 0 ? Calls.first(y, "doc") : Calls.next(y, i - 1, "doc"), i);
        C.due("a 13th by first()", Calls.first(y, "doc"), -1);
        C.due("a 13th by next()", Calls.next(y, 0, "doc"), -1);
        C.due("the text stays", y.count(3), 3);
        C.due("match() still", y.match(11, 0), 0);
        C.due("editions", y.count(1), 12);
    }

    private static void exactly() {
        // of like costs the first: a's nodes in their order with the earliest of b
        matched(PARS, "doc(par par)", "doc(par par)", 3, "0 1 2", "0 1 0");
        matched(PARS, "doc(par{a} par{b})", "doc(par{b} par{a})", 3, "0 2 1", "0 1 0");
        matched(PARS, "doc(par{a} par{b})", "doc(par{c} par{d})", 3, "0 1 2", "2 1 0");
        matched(PARS, "doc{a}", "doc{b}", 1, "0", "1 1 0");
        matched(PARS, "doc", "doc(par)", 2, "0 x", "2 1 2");
        matched(PARS, "doc(par par)", "doc", 1, "0", "4 1 4");
        // unlike words cost as much as unlike parents: the earlier one of a is paired
        matched(PARS, "doc(par{a}(par{b}))", "doc(par{b})", 2, "0 1", "3 1 2");
        matched(PARS, "doc(par{a}(par{b}))", "doc(par{c})", 2, "0 1", "3 1 2");
        matched(MIX, "doc(a b)", "doc(a(b))", 3, "0 1 2", "1 1 0");
        matched(MIX, "doc(a(b))", "doc(a b)", 3, "0 1 2", "1 1 0");
        matched(MIX, "doc(a)", "doc(b)", 2, "0 x", "4 1 4");
        matched(MIX, "doc(b{x})", "doc(s(b{x}))", 3, "0 x 1", "3 1 2");
        matched(PARS, "doc(par(par(par(par(par)))))", "doc(par par par par par)", 6, "0 1 2 3 4 5", "4 1 0");
        matched(PARS, "doc(par{x})", "doc(par{y} par{z})", 3, "0 1 x", "3 1 2");
        matched("d set d ;", "d(d{a} d{b}(d))", "d(d{b})", 2, "0 2", "4 1 4");
        // none last: the first of a goes with the only one of b
        matched(PARS, "doc(par{x} par{y})", "doc(par{z})", 2, "0 1", "3 1 2");
        matched(PARS, "doc(par{x} par{y})", "doc(par{y})", 2, "0 2", "2 1 2");
    }

    private static void byRounds() {
        // 7 nodes: no more exact
        matched(PARS, "doc(par par par par par par)", "doc(par par par par par par)", 7, "0 1 2 3 4 5 6", "0 0 0");
        matched(PARS, "doc(par par par par par)", "doc(par par par par par par)", 7, "0 1 2 3 4 5 x", "2 0 2");
        // round 1: whole trees that are the same, wherever they stand
        matched(PARS, "doc(par{a}(par{b} par{c}) par{d}(par{e}) par)", "doc(par{x}(par{d}(par{e})) par{a}(par{b} par{c}))",
                7, "0 6 4 5 1 2 3", "2 0 0");
        // round 1 takes the first of b that is free, though its parent is another
        matched(PARS, "doc(par{x} par{a} par{z} par{q}(par{r}(par{s})))", "doc(par{y}(par{a}) par{a})", 4,
                "0 1 2 3", "9 0 6");
        // b's tree with a paired node in it is no more free: par{a}(par{b}) can't be paired whole
        matched(PARS, "doc(par{b} par{a}(par{b}) par{z}(par{z}(par{z})))", "doc(par{a}(par{b}))", 3, "0 2 1", "9 0 8");
        // round 2 ahead of round 3: the same word under the paired parents
        matched(PARS, "doc(par{a}(par{k}) par{b}(par{l}) par{c}(par{m}))",
                "doc(par{b}(par{n}) par{a}(par{o}) par{c}(par{p}))", 7, "0 3 4 1 2 5 6", "3 0 0");
        // round 3: the same kind under the paired parents, the first one that is free
        matched(PARS, "doc(par{a}(par{k}) par{b}(par{l}) par{c}(par{m}))",
                "doc(par{e}(par{n}) par{a}(par{o}) par{f}(par{p}))", 7, "0 3 4 1 2 5 6", "5 0 0");
        // round 4: the same kind and word under other parents, though not the whole trees
        matched(MIX, "doc(a{p}(a{q}(b{x}) b) b{k} b{l} b{m})", "doc(a{p} s(a{q}(b{y})))", 5, "0 1 x 2 x", "15 0 10");
        // kinds are never crossed
        matched(MIX, "doc(a{x} a{y} a{z} a a{w} a{v})", "doc(b{x} b{y})", 3, "0 x x", "16 0 16");
    }

    private static void matchRefused() {
        TreeMerge x = Calls.with(MIX);
        Calls.first(x, "doc(a)");
        Calls.say(x, "doc(b a)");
        C.due("a text that doesn't fit is matched", x.match(0, 0), 2);
        C.due("its pairs", pairs(x, 0, 3), "0 x 1");
        C.due("but no edition comes of it", x.next(0), -1);
        for (int what : new int[] {-1, 3, 4, 99, 103, 1000, Integer.MIN_VALUE, Integer.MAX_VALUE}) {
            C.due("match(0, " + what + ")", x.match(0, what), -1);
        }
        C.due("match(1, 0)", x.match(1, 0), -1);
        C.due("match(-1, 0)", x.match(-1, 0), -1);
        C.due("match(12, 0)", x.match(12, 0), -1);
        Calls.say(x, "a");
        C.due("another kind outermost", x.match(0, 0), -1);
        C.due("another kind outermost, next", x.next(0), -1);
        Calls.say(x, "doc(");
        C.due("with a fault", x.match(0, 1), -1);
        C.due("with a fault, next", x.next(0), -1);
        // likes in a set as they stand, so that the text's first b{k} is the one with place 2
        Calls.say(x, "doc(s(b{k} a b{k}))");
        C.due("likes", x.match(0, 100) + " " + x.match(0, 102), "0 1");
    }

    private static void nexts() {
        TreeMerge x = Calls.with(MIX);
        Calls.first(x, "doc(a{p} a{q} s(b{k} b{l}))");
        C.due("next(-1)", Calls.next(x, -1, "doc"), -1);
        C.due("next(1)", x.next(1), -1);
        C.due("the text stays", x.count(3), 3);
        C.due("next(0)", Calls.next(x, 0, "doc(a{q} a{p}(a{n}) a{m} s(b{j} b{l}))"), 1);
        C.due("paired ones keep their numbers, others get them in order", Calls.numbers(x, 1), "0 2 1 6 7 3 4 5");
        C.due("the text is empty", x.count(3), 0);
        C.due("writers of nodes", x.writer(6) + " " + x.writer(7) + " " + x.writer(4), "1 1 0");
        C.due("its parent", x.parent(1, 0), 0);
        C.due("no second parent", x.parent(1, 1), -1);
        C.due("of the same one again", Calls.next(x, 0, "doc(a{p} a{q} s(b{k} b{l}))"), 2);
        C.due("nothing new", Calls.numbers(x, 2), "0 1 2 3 4 5");
        C.due("same", x.same(0, 2), true);
    }

    public static void main(String[] args) {
        firsts();
        limits();
        exactly();
        byRounds();
        matchRefused();
        nexts();
        C.finish("EditionTest");
    }

    private EditionTest() {
    }
}
