/** Promises 17 to 23: base, merge, carry, back, quarrel, settle, unsettle. */
public final class MergeTest {
    private static final Calls C = new Calls();
    private static final String G = "doc = par* tags? ; par = par* ; tags set tag par ; tag leaf ;";
    private static final String PARS = "doc = par* ; par = par* ;";

    private static int edit(TreeMerge x, int edition, String... changes) {
        return Calls.edit(x, edition, changes);
    }

    private static void refused(String about, TreeMerge x, int got, String quarrels) {
        C.due(about, got, -1);
        C.due(about + ", quarrels", Calls.quarrels(x), quarrels);
    }

    private static void stands(String about, TreeMerge x, int got, String printed) {
        C.due(about + " comes", got, x.count(1) - 1);
        C.due(about, Calls.printed(x, got), printed);
        C.due(about + ", quarrels", x.quarrel(-1), 0);
    }

    private static void bases() {
        TreeMerge x = Calls.with(PARS);
        Calls.first(x, "doc(par{a} par{b})");
        Calls.first(x, "doc(par{a} par{b})");
        int a = edit(x, 0, "r1x");
        int b = edit(x, 0, "r2y");
        int c = edit(x, a, "r1z");
        C.due("of itself", x.base(a, a), a);
        C.due("of one that comes from it", x.base(c, a), a);
        C.due("the other way", x.base(a, c), a);
        C.due("of two apart", x.base(b, c), 0);
        C.due("of two without", x.base(1, c), -1);
        C.due("none such", x.base(0, 5), -1);
        C.due("none such", x.base(-1, 0), -1);
        C.due("the draft is no edition", x.base(12, 12), -1);
        refused("merge without a base", x, x.merge(1, c), "");
        refused("carry without an edition from which both come", x, x.carry(c, 1), "");
        int m = x.merge(a, b);
        int n = x.merge(b, a);
        C.due("crossed", x.base(m, n), 100);
        C.due("crossed, none of it told", x.quarrel(-1), 0);
        C.due("no edition came for it", x.count(1), 7);
        int o = x.merge(m, n);
        stands("merged on a made base", x, o, "doc(par{x} par{y})");
        C.due("its parents", x.parent(o, 0) * 100 + x.parent(o, 1), m * 100 + n);
        int p = x.merge(n, m);
        C.due("crossed twice: theirs isn't one edition", x.base(o, p), -1);
        refused("so it can't be merged", x, x.merge(o, p), "");
        C.due("but it can be carried on one's parent", x.carry(c, o), 9);
        C.due("what came", Calls.printed(x, 9), "doc(par{z} par{y})");
    }

    private static void crossedQuarrel() {
        TreeMerge x = Calls.with(PARS);
        Calls.first(x, "doc(par{a} par{b})");
        int a = edit(x, 0, "r1x");
        int b = edit(x, 0, "r1y");
        refused("quarrel", x, x.merge(a, b), "2001");
        C.due("settle", x.settle(1, 2, a), true);
        int m = x.merge(a, b);
        stands("as settled", x, m, "doc(par{x} par{b})");
        C.due("settle, later", x.settle(1, 2, b), true);
        int n = x.merge(b, a);
        stands("as settled later", x, n, "doc(par{y} par{b})");
        C.due("made as settled", x.base(m, n), 100);
        // the made base has y, so m alone is unlike it
        int o = x.merge(n, m);
        stands("merged on what is made as settled", x, o, "doc(par{x} par{b})");
        C.due("unsettle", x.unsettle(), 1);
        C.due("with a quarrel there is no base", x.base(m, n), -1);
        int c = edit(x, 0, "r2c");
        refused("a quarrel to be told", x, x.merge(c, edit(x, 0, "r2d")), "2002");
        C.due("merge without a base", x.merge(m, n), -1);
        C.due("the quarrels of the latest that was tried", Calls.quarrels(x), "2002");
        C.due("one from the other", x.merge(0, m), m);
        C.due("the quarrels of the latest that was tried", Calls.quarrels(x), "2002");
        C.due("none such", x.merge(0, 11), -1);
        C.due("one of none such", x.carry(11, 0), -1);
        C.due("the quarrels of the latest that was tried", Calls.quarrels(x), "2002");
    }

    private static void words() {
        TreeMerge x = Calls.with(G);
        // doc 0, par{a} 1, par{b} 2, par{c} 3, tags 4, par{q} 5, tag{x} 6
        Calls.first(x, "doc(par{a}(par{b}) par{c} tags(tag{x} par{q}))");
        int a = edit(x, 0, "r1d", "r2", "r0t");
        int b = edit(x, 0, "r1d", "r3e", "r6w");
        int m = x.merge(a, b);
        stands("unlike the base in one, or alike in both", x, m, "doc{t}(par{d}(par) par{e} tags(par{q} tag{w}))");
        C.due("writers", x.of(m, 1, 5) + " " + x.of(m, 2, 5) + " " + x.of(m, 3, 5) + " " + x.of(m, 5, 5),
                a + " " + a + " " + b + " 0");
        C.due("the other way: the first parent's", x.of(x.merge(b, a), 1, 5), b);
        int c = edit(x, 0, "r1", "r2k", "r3l");
        refused("three of them", x, x.merge(c, b), "2001 2003");
        C.due("quarrel(0)", x.quarrel(0), 2001);
        C.due("quarrel(2)", x.quarrel(2), -1);
        C.due("quarrel(-2)", x.quarrel(-2), -1);
        C.due("settle one", x.settle(1, 2, c), true);
        refused("the other is left", x, x.merge(c, b), "2003");
        C.due("settle the other with none of them", x.settle(3, 2, a), true);
        refused("that isn't a side", x, x.merge(c, b), "2003");
        C.due("settle the other", x.settle(3, 2, b), true);
        C.due("how many", x.count(5), 2);
        stands("settled", x, x.merge(c, b), "doc(par(par{k}) par{e} tags(par{q} tag{w}))");
        C.due("unsettle", x.unsettle(), 2);
        C.due("unsettle again", x.unsettle(), 0);
        refused("not any more", x, x.merge(b, c), "2001 2003");
    }

    private static void settling() {
        TreeMerge x = Calls.with(G);
        Calls.first(x, "doc(par{a}(par{b}) par{c})");
        C.due("settle(4, ..)", x.settle(4, 1, 0), false);
        C.due("settle(-1, ..)", x.settle(-1, 1, 0), false);
        C.due("kind 0", x.settle(0, 0, 0), false);
        C.due("kind 4", x.settle(0, 4, 0), false);
        C.due("edition 1", x.settle(0, 1, 1), false);
        C.due("edition -1", x.settle(0, 1, -1), false);
        C.due("edition 12", x.settle(0, 1, 12), false);
        C.due("none yet", x.count(5), 0);
        for (int kind = 1; kind <= 3; kind++) C.due("settle", x.settle(3, kind, 0), true);
        C.due("the same again", x.settle(3, 2, 0), true);
        C.due("nodes and kinds", x.count(5), 3);
        C.due("unsettle", x.unsettle(), 3);
        C.due("none", x.count(5), 0);
        int a = edit(x, 0, "r1x");
        int b = edit(x, 0, "m3 1 0");
        x.settle(1, 2, b);
        x.settle(3, 3, a);
        x.settle(3, 1, a);
        stands("what is no quarrel isn't settled", x, x.merge(a, b), "doc(par{x}(par{c} par{b}))");
    }

    private static void gone() {
        TreeMerge x = Calls.with(G);
        // doc 0, par{a} 1, par{b} 2, par{c} 3, par{d} 4, tags 5, tag{x} 6
        Calls.first(x, "doc(par{a}(par{b}(par{c})) par{d} tags(tag{x}))");
        int a = edit(x, 0, "t3", "t2", "t6", "t5");
        int b = edit(x, 0, "r4e");
        stands("untouched ones are gone", x, x.merge(b, a), "doc(par{a} par{e})");
        int c = edit(x, 0, "r3f");
        refused("touched, and all above it that are taken", x, x.merge(a, c), "1002 1003");
        x.settle(3, 1, c);
        x.settle(2, 1, a);
        stands("gone, and what is under it", x, x.merge(a, c), "doc(par{a} par{d})");
        x.settle(2, 1, c);
        stands("both stand", x, x.merge(c, a), "doc(par{a}(par{b}(par{f})) par{d})");
        x.settle(3, 1, a);
        stands("the lower one gone", x, x.merge(a, c), "doc(par{a}(par{b}) par{d})");
        x.unsettle();
        int d = edit(x, 0, "p5 0 3n");
        refused("a new one under what is taken", x, x.merge(d, a), "1005");
        x.settle(5, 1, a);
        stands("gone with the new one", x, x.merge(d, a), "doc(par{a} par{d})");
        x.settle(5, 1, d);
        stands("it stands; what was untouched in it is gone", x, x.merge(a, d), "doc(par{a} par{d} tags(tag{n}))");
        C.due("12 came", x.count(1), 11);
        // the node that is taken was moved into: both the moved one and the new parent are touched
        int e = edit(x, 0, "m4 3 0");
        refused("12 came ahead of all else", x, x.merge(e, a), "");
        refused("12 came", x, x.carry(e, a), "");
        refused("12 came", x, x.back(a, 4), "");
        C.due("but one that comes from the other", x.merge(e, 0), e);
    }

    /** What is led to one that is gone is gone ahead of all further quarrels, and isn't counted. */
    private static void goneLed() {
        TreeMerge x = Calls.with("doc = par* tags* ; par = par* tags* ; tags set tag ; tag leaf ;");
        // doc 0, par 1, par{k} 2, tags 3
        Calls.first(x, "doc(par par{k} tags)");
        C.due("numbers", Calls.numbers(x, 0), "0 1 2 3");
        int a = edit(x, 0, "m3 1 0", "p3 0 3t");
        int b = edit(x, 0, "t1", "p3 0 3t");
        refused("moved into what is taken", x, x.merge(a, b), "1001");
        x.settle(1, 1, a);
        refused("it stands, and so do the likes", x, x.merge(a, b), "7003");
        x.settle(1, 1, b);
        stands("it is gone, with them", x, x.merge(a, b), "doc(par{k})");
        String[] many = new String[21];
        java.util.Arrays.fill(many, "p2 0 1");
        many[0] = "m2 1 0";
        int c = edit(x, 0, many);
        java.util.Arrays.fill(many, "p0 0 1");
        many[0] = "t1";
        int d = edit(x, 0, many);
        C.due("without the settled one that is gone 42 would stand", x.unsettle(), 1);
        refused("and more", x, x.merge(d, c), "1001");
        x.settle(1, 1, c);
        refused("more than 40", x, x.merge(d, c), "8000");
        x.settle(1, 1, d);
        C.due("they are gone", x.node(x.merge(d, c), -1), 22);
    }

    private static void apart() {
        TreeMerge x = Calls.with(PARS);
        Calls.first(x, "doc(par{a})");
        Calls.first(x, "doc(par{b})");
        int a = edit(x, 0, "r1c");
        int b = edit(x, 0, "r0d");
        stands("of the one tree", x, x.merge(a, b), "doc{d}(par{c})");
        int c = edit(x, 1, "r3c");
        int d = edit(x, 1, "r2d");
        stands("of the other tree", x, x.merge(c, d), "doc{d}(par{c})");
        C.due("its numbers", Calls.numbers(x, 7), "2 3");
        C.due("its outermost one's word", x.of(7, 2, 5), d);
    }

    /** Nothing is left of what was settled, for edition 0 neither. */
    private static void unsettling() {
        TreeMerge x = Calls.with(PARS);
        Calls.first(x, "doc(par{a})");
        int a = edit(x, 0, "r1b", "r0k");
        int b = edit(x, a, "r1c", "r0l");
        refused("renamed since", x, x.back(a, b), "2000 2001");
        x.settle(0, 2, 0);
        x.settle(1, 2, 0);
        x.settle(0, 1, 0);
        C.due("settled", x.count(5), 3);
        C.due("unsettle", x.unsettle(), 3);
        refused("as before", x, x.back(a, b), "2000 2001");
        x.settle(0, 1, 0);
        x.settle(1, 2, 0);
        C.due("settled", x.count(5), 2);
        refused("one is left", x, x.back(a, b), "2000");
        TreeMerge y = Calls.with(PARS);
        for (int i = 0; i < 6; i++) Calls.first(y, "doc(" + "par ".repeat(23) + ")");
        Calls.first(y, "doc(par par par par par)");
        for (int kind = 1; kind <= 3; kind++) C.due("the last number", y.settle(149, kind, 6), true);
        C.due("settle(150, ..)", y.settle(150, 1, 6), false);
        C.due("the first number", y.settle(0, 3, 6), true);
        C.due("settled", y.count(5), 4);
        int c = edit(y, 6, "m149 148 0", "m147 146 0", "r149x");
        int d = edit(y, 6, "m149 145 0", "m147 145 0", "r149y");
        refused("the last numbers", y, y.merge(c, d), "2149 3147 3149");
        y.settle(149, 3, c);
        y.settle(149, 2, d);
        y.settle(147, 3, d);
        stands("the last numbers, settled", y, y.merge(c, d), "doc(par(par) par par(par{y}))");
    }

    /** With 12 editions nothing is tried. */
    private static void full() {
        TreeMerge x = Calls.with(PARS);
        Calls.first(x, "doc(par{a} par{b})");
        int a = edit(x, 0, "r1x");
        int b = edit(x, a, "r1y");
        int c = edit(x, 0, "r2y");
        int d = edit(x, 0, "r2z");
        refused("told", x, x.merge(c, d), "2002");
        while (x.count(1) < 12) edit(x, 0);
        C.due("merge", x.merge(a, c), -1);
        C.due("carry", x.carry(a, c), -1);
        C.due("carry to the last one", x.carry(a, 11), -1);
        C.due("back", x.back(a, b), -1);
        C.due("the quarrels told are the old ones", Calls.quarrels(x), "2002");
        C.due("12", x.count(1), 12);
    }

    private static void goneMoved() {
        TreeMerge x = Calls.with(PARS);
        // doc 0, par{a} 1, par{b} 2, par{c} 3
        Calls.first(x, "doc(par{a}(par{b}) par{c})");
        int a = edit(x, 0, "m2 0 0", "t1");
        int b = edit(x, 0, "m3 1 0");
        refused("moved into what is taken", x, x.merge(a, b), "1001");
        x.settle(1, 1, a);
        stands("gone with what was moved there", x, x.merge(a, b), "doc(par{b})");
        x.settle(1, 1, b);
        stands("stands; the other side's move stands too", x, x.merge(a, b), "doc(par{a}(par{c}) par{b})");
        int c = edit(x, 0, "r2w");
        refused("what is under it is renamed, though moved away by the other", x, x.merge(c, a), "1001");
        x.settle(1, 1, a);
        stands("renamed and moved", x, x.merge(c, a), "doc(par{w} par{c})");
        int d = edit(x, 0, "p2 0 1n");
        stands("a new one goes with the one under which it is", x, x.merge(a, d), "doc(par{b}(par{n}) par{c})");
    }

    private static void parents() {
        TreeMerge x = Calls.with(PARS);
        // par{a} 1, par{b} 2, par{c} 3, par{d} 4
        Calls.first(x, "doc(par{a} par{b} par{c} par{d})");
        int a = edit(x, 0, "m1 2 0");
        int b = edit(x, 0, "m1 3 0");
        refused("moved to two", x, x.merge(a, b), "3001");
        x.settle(1, 3, b);
        stands("settled", x, x.merge(a, b), "doc(par{b} par{c}(par{a}) par{d})");
        x.settle(1, 3, a);
        stands("settled the other way", x, x.merge(a, b), "doc(par{b}(par{a}) par{c} par{d})");
        x.unsettle();
        int c = edit(x, 0, "m2 1 0");
        refused("a ring", x, x.merge(c, a), "4001");
        int d = edit(x, 0, "m1 2 0", "m3 4 0");
        int e = edit(x, 0, "m2 1 0", "m4 3 0");
        refused("two rings", x, x.merge(e, d), "4001 4003");
        int f = edit(x, 0, "m3 1 0", "m2 3 0", "r4x");
        int g = edit(x, 0, "m1 2 0", "p1 0 1n");
        refused("a ring of three, with one that leads to it", x, x.merge(f, g), "4001");
        int h = edit(x, 0, "m2 1 0", "r4y");
        refused("ahead of rings", x, x.merge(f, h), "2004 3002");
    }

    private static void orders() {
        TreeMerge x = Calls.with(PARS);
        Calls.first(x, "doc(par{a} par{b} par{c})");
        int a = edit(x, 0, "m2 0 0");
        int b = edit(x, 0, "m3 0 1");
        refused("2 1 3 and 1 3 2", x, x.merge(a, b), "5000");
        int c = edit(x, 0, "m3 0 0");
        int d = edit(x, 0, "m1 0 2");
        stands("3 1 2 and 2 3 1", x, x.merge(c, d), "doc(par{c} par{b} par{a})");
        int e = edit(x, 0, "p0 3 1y", "p0 0 1z");
        stands("new ones", x, x.merge(e, c), "doc(par{z} par{c} par{a} par{b} par{y})");
        refused("a new one behind the first, and that behind the last", x, x.merge(edit(x, 0, "p0 1 1"), c), "5000");
        int f = edit(x, 0, "p0 0 1k", "p0 0 1l");
        int g = edit(x, 0, "p0 0 1", "p0 0 1m");
        stands("the least of several first", x, x.merge(f, g), "doc(par{l} par{k} par{m} par par{a} par{b} par{c})");
    }

    private static void ordersUnder() {
        TreeMerge x = Calls.with(PARS);
        Calls.first(x, "doc(par{a} par{b} par{c})");
        int h = edit(x, 0, "m1 2 0", "m3 2 0");
        int i = edit(x, 0, "m3 2 0", "m1 2 0");
        refused("both say, unlike, and the base doesn't", x, x.merge(h, i), "5002");
        int j = edit(x, 0, "m1 2 0", "m3 2 0");
        stands("both say, alike", x, x.merge(h, j), "doc(par{b}(par{c} par{a}))");
    }

    private static void unlikely() {
        TreeMerge x = Calls.with("doc = head? par* tags? ; head leaf ; par = par* head? ; tags set tag par ; tag leaf ;");
        // doc 0, par{a} 1, par{b} 2, tags 3, par{c} 4
        Calls.first(x, "doc(par{a} par{b} tags(par{c}))");
        int a = edit(x, 0, "p0 0 1x", "p3 0 4t");
        int b = edit(x, 0, "p0 0 1y", "p3 0 4t", "p3 0 4u");
        refused("two heads, two likes", x, x.merge(a, b), "6000 7003");
        int c = edit(x, 0, "m1 3 0", "r1q");
        int d = edit(x, 0, "m2 3 0", "r2q");
        refused("likes that were moved", x, x.merge(c, d), "7003");
        int e = edit(x, 0, "m2 0 0", "p3 0 4");
        int f = edit(x, 0, "p1 0 1x", "p3 0 4");
        int g = edit(x, 0, "p1 0 1y", "p0 1 2s", "m2 0 1");
        refused("no word is like no word", x, x.merge(e, f), "7003");
        refused("one head under one", x, x.merge(f, g), "6001");
        int h = edit(x, 0, "m1 2 0", "m4 2 0", "p2 2 1h", "p0 0 1h");
        int i = edit(x, 0, "m4 2 0", "m1 2 0", "p0 0 1h", "p3 0 4u");
        refused("told by kind, then by node", x, x.merge(h, i), "5002 6000");
    }

    private static void crowd() {
        TreeMerge x = Calls.with(PARS);
        Calls.first(x, "doc");
        String[] many = new String[20];
        java.util.Arrays.fill(many, "p0 0 1a");
        int a = edit(x, 0, many);
        int b = edit(x, 0, many);
        refused("41 stand", x, x.merge(a, b), "8000");
        String[] few = new String[19];
        java.util.Arrays.fill(few, "p0 0 1b");
        int c = edit(x, 0, few);
        int m = x.merge(a, c);
        C.due("40 stand", x.node(m, -1), 40);
        C.due("all of them", Calls.printed(x, m), "doc(" + "par{a} ".repeat(20) + "par{b}" + " par{b}".repeat(18) + ")");
        C.due("begun on 40", x.begin(m), true);
        C.due("none can be put", x.put(0, 0, 1, 0), -1);
        C.due("one can be taken", x.take(1), true);
        C.due("one can be moved", x.move(2, 3, 0), true);
        C.due("closed with 39", x.node(x.close(), -1), 39);
        C.due("printed, 40", x.print(m, -1), 3 + 2 + 39 * 6 + 38);
        C.due("printed, 39", x.print(5, -1), 3 + 2 + 38 * 6 + 36 + 2);
        Calls.say(x, "doc(par{b} par{a})");
        C.due("matched to 40", x.match(m, 0), 2 * 37);
        C.due("matched to 40", x.match(m, 101) + " " + x.match(m, 102), x.node(m, 21) + " " + x.node(m, 1));
        refused("the other way", x, x.merge(b, a), "8000");
        C.due("carried over the most", x.carry(b, m), -1);
        C.due("carried over the most", Calls.quarrels(x), "8000");
        TreeMerge y = Calls.with(PARS);
        Calls.first(y, "doc(par{a} par{b})");
        many[0] = "m1 2 0";
        int d = edit(y, 0, many);
        many[0] = "m2 1 0";
        refused("a ring and too many", y, y.merge(d, edit(y, 0, many)), "4001 8000");
    }

    private static void carrying() {
        TreeMerge x = Calls.with(PARS);
        Calls.first(x, "doc(par{a} par{b} par{c})");
        int a = edit(x, 0, "r1x");
        int b = edit(x, a, "r2y");
        int c = edit(x, 0, "r3z");
        int d = x.carry(b, c);
        stands("b's edits alone", x, d, "doc(par{a} par{y} par{z})");
        C.due("its one parent", x.parent(d, 0) * 100 + x.parent(d, 1), c * 100 - 1);
        C.due("the word is its own", x.of(d, 2, 5), d);
        C.due("the other isn't", x.of(d, 3, 5), c);
        C.due("doesn't come from b", x.from(d, b), false);
        refused("without a parent", x, x.carry(0, c), "");
        int m = x.merge(b, c);
        refused("with two", x, x.carry(m, 0), "");
        C.due("none such", x.carry(11, 0), -1);
        C.due("to none such", x.carry(a, 11), -1);
        C.due("to none such", x.carry(a, -1), -1);
        int e = edit(x, 0, "r2w");
        refused("a quarrel", x, x.carry(b, e), "2002");
        x.settle(2, 2, e);
        stands("settled", x, x.carry(b, e), "doc(par{a} par{w} par{c})");
        x.settle(2, 2, a);
        refused("the parent is no side", x, x.carry(b, e), "2002");
        stands("to its parent", x, x.carry(b, a), "doc(par{x} par{y} par{c})");
        stands("to one that comes from it", x, x.carry(a, b), "doc(par{x} par{y} par{c})");
        C.due("its parent is that", x.parent(x.count(1) - 1, 0), b);
    }

    private static void carryingNew() {
        TreeMerge x = Calls.with(PARS);
        Calls.first(x, "doc(par{a} par{b})");
        int a = edit(x, 0, "p0 2 1n");
        int b = edit(x, a, "r3o", "m3 1 0");
        refused("in both, not in the base", x, x.carry(a, b), "2003 3003");
        x.settle(3, 2, a);
        x.settle(3, 3, b);
        stands("settled", x, x.carry(a, b), "doc(par{a}(par{n}) par{b})");
        x.settle(3, 2, b);
        x.settle(3, 3, a);
        stands("settled the other way", x, x.carry(a, b), "doc(par{a} par{b} par{o})");
        int c = edit(x, a, "t3");
        stands("not in the base and in one: it stands", x, x.carry(a, c), "doc(par{a} par{b} par{n})");
        stands("the number is the old one", x, x.carry(c, a), "doc(par{a} par{b})");
    }

    private static void takingBack() {
        TreeMerge x = Calls.with(PARS);
        Calls.first(x, "doc(par{a} par{b} par{c})");
        int a = edit(x, 0, "r1x", "t3");
        int b = edit(x, a, "r2y", "p0 2 1n");
        int c = edit(x, b, "r1z", "p4 0 1m");
        int d = x.back(a, b);
        stands("a's edits out of b", x, d, "doc(par{a} par{y} par{c} par{n})");
        C.due("what a took is there by its number", Calls.numbers(x, d), "0 1 2 3 4");
        C.due("its one parent", x.parent(d, 0) * 100 + x.parent(d, 1), b * 100 - 1);
        C.due("the word's writer", x.of(d, 1, 5), d);
        C.due("the node's writer", x.writer(3), 0);
        refused("out of itself", x, x.back(b, b), "");
        refused("out of one that doesn't come from it", x, x.back(b, a), "");
        refused("without a parent", x, x.back(0, b), "");
        refused("none such", x, x.back(11, b), "");
        refused("out of none such", x, x.back(a, 11), "");
        refused("out of none such", x, x.back(a, -1), "");
        refused("renamed since", x, x.back(a, c), "2001");
        refused("what it put has another in it", x, x.back(b, c), "1004");
        x.settle(1, 2, a);
        refused("the one taken back is no side", x, x.back(a, c), "2001");
        x.settle(1, 2, 0);
        stands("as its parent has it", x, x.back(a, c), "doc(par{a} par{y} par{c} par{n}(par{m}))");
        x.settle(4, 1, a);
        stands("gone as in its parent", x, x.back(b, c), "doc(par{z} par{b})");
        int e = edit(x, 0, "r2k");
        int m = x.merge(e, edit(x, 0, "r3l"));
        C.due("merged", Calls.printed(x, m), "doc(par{a} par{k} par{l})");
        refused("with two parents", x, x.back(m, edit(x, m, "r1q")), "");
        stands("out of a merged one", x, x.back(e, m), "doc(par{a} par{b} par{l})");
    }

    public static void main(String[] args) {
        bases();
        crossedQuarrel();
        words();
        settling();
        gone();
        goneLed();
        goneMoved();
        apart();
        unsettling();
        full();
        parents();
        orders();
        ordersUnder();
        unlikely();
        crowd();
        carrying();
        carryingNew();
        takingBack();
        C.finish("MergeTest");
    }
}
