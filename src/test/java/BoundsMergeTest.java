/** Part 5 of the document and promises 17 to 23: each sentence that names a bound, held at that bound. */
public final class BoundsMergeTest {
    private static final Calls C = new Calls();
    private static final String PARS = "doc = par* ; par = par* ;";
    private static final String NEST = "doc(par{a}(par{b}(par{c})) par{d} par{e})";
    private static final int[] FAR = {-2, -1, 11, 12, 13, 100, Integer.MIN_VALUE, Integer.MAX_VALUE};

    private static int edit(TreeMerge x, int edition, String changes) {
        return changes.isEmpty() ? Calls.edit(x, edition) : Calls.edit(x, edition, changes.split(", "));
    }

    /** What came, printed, or the quarrels that were told. */
    private static String told(TreeMerge x, int edition) {
        return edition >= 0 ? Calls.printed(x, edition) : Calls.quarrels(x);
    }

    /** Editions 1 and 2 are changed from edition 0; merged either way. */
    private static TreeMerge merged(String grammar, String tree, String one, String other, String want) {
        TreeMerge x = Calls.with(grammar);
        Calls.first(x, tree);
        edit(x, 0, one);
        edit(x, 0, other);
        C.due(one + " / " + other, told(x, x.merge(1, 2)), want);
        C.due(other + " / " + one, told(x, x.merge(2, 1)), want);
        return x;
    }

    private static void settled(TreeMerge x, int node, int kind, int edition, String want) {
        C.due("settle(" + node + ", " + kind + ", " + edition + ")", x.settle(node, kind, edition), true);
        C.due("merge(1, 2), settled so", told(x, x.merge(1, 2)), want);
        C.due("merge(2, 1), settled so", told(x, x.merge(2, 1)), want);
    }

    private static String many(String change, int times) {
        return (change + ", ").repeat(times - 1) + change;
    }

    private static void touched() {
        C.by("A NODE of the base is TOUCHED by a side that has it, if it, or a NODE that is under it in that side, "
                + "has another WORD or parent there than in the base, or isn't in the base.");
        merged(PARS, NEST, "t3, t2, t1", "", "doc(par{d} par{e})");
        merged(PARS, NEST, "t3, t2, t1", "r1x", "1001");
        merged(PARS, NEST, "t3, t2, t1", "r1", "1001");
        merged(PARS, NEST, "t3, t2, t1", "r2x", "1001 1002");
        merged(PARS, NEST, "t3, t2, t1", "r3x", "1001 1002 1003");
        merged(PARS, NEST, "t3, t2, t1", "m4 3 0", "1001 1002 1003");
        merged(PARS, NEST, "t3, t2, t1", "p1 0 1n", "1001");
        merged(PARS, NEST, "t3, t2, t1", "p3 0 1n", "1001 1002 1003");
        merged(PARS, NEST, "t3, t2, t1", "t3", "doc(par{d} par{e})");
        merged(PARS, NEST, "t3, t2, t1", "m3 1 0", "1001 1003");
        merged(PARS, NEST, "t3, t2, t1", "m2 0 0", "1002");
        merged(PARS, NEST, "t3, t2, t1", "m1 4 0", "1001");
        merged(PARS, NEST, "t3, t2, t1", "m1 0 2", "doc(par{d} par{e})");
        merged(PARS, NEST, "t3, t2, t1", "r1x, r1a", "doc(par{d} par{e})");
        merged(PARS, NEST, "t3, t2, t1", "p1 0 1n, t6", "doc(par{d} par{e})");
        merged(PARS, "doc(par{a}(par{b} par{c}))", "t2, t3, t1", "m3 1 0", "doc");
        C.by("QUARRELS are kinds at NODES: 1 a NODE of the base is in one side only, and TOUCHED by that one.");
        merged(PARS, NEST, "t5", "r5x", "1005");
        merged(PARS, NEST, "t5", "r4x", "doc(par{a}(par{b}(par{c})) par{x})");
        merged(PARS, NEST, "t5", "t5", "doc(par{a}(par{b}(par{c})) par{d})");
        merged(PARS, NEST, "p5 0 1n", "t5", "1005");
        merged(PARS, NEST, "p5 0 1n", "t4", "doc(par{a}(par{b}(par{c})) par{e}(par{n}))");
    }

    private static void wordsAndParents() {
        C.by("2 a NODE in both sides has unlike WORDS there, each unlike that in the base (or it isn't in the base).");
        merged(PARS, NEST, "r4x", "r4y", "2004");
        merged(PARS, NEST, "r4x", "r4x", "doc(par{a}(par{b}(par{c})) par{x} par{e})");
        merged(PARS, NEST, "r4x", "", "doc(par{a}(par{b}(par{c})) par{x} par{e})");
        merged(PARS, NEST, "r4", "r4y", "2004");
        merged(PARS, NEST, "r4", "", "doc(par{a}(par{b}(par{c})) par par{e})");
        merged(PARS, NEST, "r0x", "r0y", "2000");
        merged(PARS, NEST, "r0x, r4x, r5x", "r0y, r4y, r5y", "2000 2004 2005");
        TreeMerge x = Calls.with(PARS);
        Calls.first(x, "doc(par{a})");
        edit(x, 0, "p0 0 1n");
        edit(x, 1, "r2m");
        C.due("in both, not in the base", told(x, x.carry(1, 2)), "2002");
        C.due("the same word in both", told(x, x.carry(1, edit(x, 1, "r1k"))), "doc(par{n} par{k})");
        C.due("none in the one to which it is carried", told(x, x.carry(1, edit(x, 1, "r2"))), "2002");
        edit(x, 0, "p0 0 1");
        C.due("none in the one that is carried", told(x, x.carry(6, edit(x, 6, "r3k"))), "2003");
        C.by("3 the same of parents.");
        merged(PARS, NEST, "m4 3 0", "m4 2 0", "3004");
        merged(PARS, NEST, "m4 3 0", "m4 3 0", "doc(par{a}(par{b}(par{c}(par{d}))) par{e})");
        merged(PARS, NEST, "m4 3 0", "", "doc(par{a}(par{b}(par{c}(par{d}))) par{e})");
        merged(PARS, NEST, "m4 0 0", "m4 3 0", "doc(par{a}(par{b}(par{c}(par{d}))) par{e})");
        merged(PARS, NEST, "m3 0 0, r3x", "m3 1 0, r3y", "2003 3003");
        TreeMerge y = Calls.with(PARS);
        Calls.first(y, "doc(par{a})");
        edit(y, 0, "p0 0 1n");
        edit(y, 1, "m2 1 0");
        C.due("in both, not in the base", told(y, y.carry(1, 2)), "3002");
        C.by("Those are told first.");
        merged(PARS, NEST, "t5, r4x, m3 0 0", "r5y, r4y, m3 1 0", "1005 2004 3003");
        merged(PARS, NEST, "m4 5 0, r1x", "m5 4 0, r1y", "2001");
        TreeMerge z = merged(PARS, NEST, many("p0 0 1", 18) + ", r1x", many("p0 0 1", 18) + ", r1y", "2001");
        C.by("If there is none (but SETTLED ones): 4");
        settled(z, 1, 2, 1, "8000");
        TreeMerge w = merged(PARS, NEST, "m4 5 0, r1x", "m5 4 0, r1y", "2001");
        settled(w, 1, 2, 2, "4004");
        C.by("told at the outermost. If there is none: 5");
        merged(PARS, "doc(par{a} par{b} par{c} par{d} par{e})", "m2 0 0, m4 5 0", "m3 0 1, m5 4 0", "4004");
        merged(PARS, "doc(par{a} par{b} par{c})", "m2 0 0, " + many("p1 0 1", 20), "m3 0 1, " + many("p1 0 1", 20), "8000");
        merged("doc set par ; par = par? ;", "doc(par{a} par{b} par{c})", "p1 0 1, p0 0 1n, m2 3 0", "p1 0 1, p0 0 1n, m3 2 0", "4002");
        merged("doc set par ; par = par? ;", "doc(par{a} par{b} par{c})", "p1 0 1, p0 0 1n", "p1 0 1, p0 0 1n", "6001 7000");
    }

    private static void ringsAndCrowds() {
        C.by("4 parents lead from a NODE back to itself: told at the least number of each such ring;");
        merged(PARS, NEST, "m4 5 0", "m5 4 0", "4004");
        merged(PARS, NEST, "m1 4 0", "m4 3 0", "4001");
        merged(PARS, "doc(par par par par)", "m1 2 0, m3 4 0", "m2 1 0, m4 3 0", "4001 4003");
        merged(PARS, "doc(par par par par)", "m1 2 0, m3 4 0", "m2 3 0, m4 1 0", "4001");
        merged(PARS, "doc(par par par par)", "m4 1 0, m1 2 0", "m2 1 0", "4001");
        merged(PARS, "doc(par par par par)", "m1 4 0, m3 4 0", "m4 3 0", "4003");
        merged(PARS, "doc(par par par par)", "m4 3 0, m3 2 0, m2 1 0", "", "doc(par(par(par(par))))");
        C.by("8 more than 40 NODES stand: told at the outermost.");
        String crowded = "doc(par{a} par{b})";
        TreeMerge x = merged(PARS, crowded, many("p0 0 1", 18), many("p0 0 1", 19),
                "doc(" + "par ".repeat(37) + "par{a} par{b})");
        C.due("40 stand", x.node(3, -1), 40);
        merged(PARS, crowded, many("p0 0 1", 19), many("p0 0 1", 19), "8000");
        merged(PARS, crowded, many("p0 0 1", 19) + ", t1", many("p0 0 1", 19), "doc(" + "par ".repeat(38) + "par{b})");
        merged(PARS, crowded, many("p0 0 1", 19) + ", m1 2 0", many("p0 0 1", 19) + ", m2 1 0", "4001 8000");
        TreeMerge y = Calls.with(PARS);
        Calls.first(y, "doc");
        Calls.first(y, "doc");
        edit(y, 1, many("p1 0 1", 20));
        edit(y, 1, many("p1 0 1", 20));
        C.due("its outermost has another number", told(y, y.merge(2, 3)), "8001");
        merged("doc = par par par* ; par = par* ;", "doc(par par)", many("p0 0 1", 20), many("p1 0 1", 20), "8000");
    }

    private static void ordersAndFits() {
        String g = "doc = head? par* tags? ; head leaf ; par = par* head? ; tags set tag par ; tag leaf ;";
        String t = "doc(par{a} par{b} tags(par{c}))";
        C.by("5 the order of a NODE's children contradicts itself; where it doesn't: 6 it doesn't FIT, but for likeness; "
                + "7 two children of a set are of one KIND with the same WORD (or both none).");
        merged(g, t, "p0 0 1x", "p0 0 1y", "6000");
        merged(g, t, "p0 0 1x", "p1 0 1y", "doc(head{x} par{a}(head{y}) par{b} tags(par{c}))");
        merged(g, t, "p3 0 4x", "p3 0 4x", "7003");
        merged(g, t, "p3 0 4x", "p3 0 4y", "doc(par{a} par{b} tags(par{c} tag{x} tag{y}))");
        merged(g, t, "p3 0 4", "p3 0 4", "7003");
        merged(g, t, "p3 0 4c", "p3 0 4", "doc(par{a} par{b} tags(par{c} tag tag{c}))");
        merged(g, t, "p0 0 1x, p3 0 4x", "p0 0 1y, p3 0 4x", "6000 7003");
        merged(g, t, "p1 0 2k, p1 1 2l, p0 0 1x, p3 0 4", "p1 0 2m, p1 1 2n, p0 0 1y, p3 0 4", "6000 7003");
        merged(g, t, "m1 2 0, m4 2 0", "m4 2 0, m1 2 0", "5002");
        merged(g, t, "m1 2 0, m4 2 0, p2 2 1x", "m4 2 0, m1 2 0, p2 2 1y", "5002");
        merged(g, t, "m1 2 0, p2 1 1x", "m4 2 0, p2 1 1y", "6002");
        merged(g, t, "m1 3 0, r1q", "m2 3 0, r2q", "7003");
        merged("doc set par tag ; par set tag ; tag leaf ;", "doc(par(tag{a}) tag{a})", "p1 0 2c, p0 0 2c", "p1 0 2c, p0 0 2c",
                "7000 7001");
        merged(PARS, "doc(par{a} par{b} par{c})", "m2 0 0", "m3 0 1", "5000");
    }

    private static void whatStands() {
        C.by("What stands, if none is: NODES in both sides, or not in the base and in one.");
        merged(PARS, NEST, "t4, p0 0 1n", "t5, p0 0 1m", "doc(par{m} par{n} par{a}(par{b}(par{c})))");
        merged(PARS, "doc", "", "", "doc");
        merged(PARS, "doc(par)", "t1", "t1", "doc");
        C.by("WORD and parent: that of the side that has it unlike the base, else that of the base "
                + "(or of the side that has the NODE, if it isn't in the base).");
        merged(PARS, NEST, "r4x, m3 4 0", "r5y, m4 5 0", "doc(par{a}(par{b}) par{y}(par{x}(par{c})))");
        merged(PARS, NEST, "r0x, p4 0 1n", "r1", "doc{x}(par(par{b}(par{c})) par{d}(par{n}) par{e})");
        C.by("ORDER of children of one that is no set: a side says which of two is ahead, if both are its children there. "
                + "If both say so and alike, or one alone: that is so; if both say, unlike: as that one which doesn't say as "
                + "the base says; if the base doesn't say, it contradicts itself.");
        String three = "doc(par{a} par{b} par{c})";
        merged(PARS, three, "m3 0 0", "", "doc(par{c} par{a} par{b})");
        merged(PARS, three, "m3 0 0", "m3 0 0", "doc(par{c} par{a} par{b})");
        merged(PARS, three, "m3 0 0", "m2 0 0", "doc(par{c} par{b} par{a})");
        merged(PARS, three, "p0 1 1z", "m3 0 0", "5000");
        merged(PARS, three, "p0 3 1z", "p0 0 1y", "doc(par{y} par{a} par{b} par{c} par{z})");
        merged(PARS, three, "m2 1 0, m3 1 0", "m3 1 0, m2 1 0", "5001");
        merged(PARS, three, "m2 1 0, m3 1 0", "m2 1 0, m3 1 0", "doc(par{a}(par{c} par{b}))");
        merged(PARS, three, "m3 1 0", "m2 1 0", "doc(par{a}(par{b} par{c}))");
        merged(PARS, three, "p0 3 1, m1 0 3", "t2", "doc(par{c} par par{a})");
        C.by("Then again and again the one comes next of which none that is left is to be ahead, "
                + "of several the least by KIND, WORD, number (as in a set); if there is none, it contradicts itself.");
        merged("doc = b* a* b* a* ; a leaf ; b leaf ;", "doc", "p0 0 1a", "p0 0 2", "doc(a{a} b)");
        merged("doc = a* ; a leaf ;", "doc", "p0 0 1b", "p0 0 1a", "doc(a{a} a{b})");
        merged("doc = a* ; a leaf ;", "doc", "p0 0 1a", "p0 0 1", "doc(a a{a})");
        merged("doc = a* ; a leaf ;", "doc", "p0 0 1b, p0 1 1a", "p0 0 1c, p0 1 1", "doc(a{b} a{a} a{c} a)");
        TreeMerge x = merged("doc = a* ; a leaf ;", "doc", "p0 0 1k", "p0 0 1k", "doc(a{k} a{k})");
        C.due("of likes the least number", Calls.numbers(x, 3) + ", " + Calls.numbers(x, 4), "0 1 2, 0 1 2");
        merged(PARS, three, "m1 0 1", "m3 0 1", "5000");
    }

    private static void settles() {
        C.by("SETTLED is a QUARREL of kinds 1 to 3 (told: a NODE, a kind, an EDITION; the later for the same NODE and kind "
                + "counts): if that EDITION is a side, it is as that side has it:");
        TreeMerge x = merged(PARS, NEST, "r4x, r5x", "r4y, r5y", "2004 2005");
        settled(x, 4, 2, 0, "2004 2005");
        settled(x, 4, 2, 1, "2005");
        settled(x, 5, 2, 2, "doc(par{a}(par{b}(par{c})) par{x} par{y})");
        settled(x, 4, 2, 2, "doc(par{a}(par{b}(par{c})) par{y} par{y})");
        settled(x, 4, 2, 0, "2004");
        C.due("of each node and kind one", x.count(5), 2);
        TreeMerge y = merged(PARS, NEST, "m4 3 0", "m4 2 0", "3004");
        settled(y, 4, 2, 1, "3004");
        settled(y, 4, 1, 1, "3004");
        settled(y, 4, 3, 1, "doc(par{a}(par{b}(par{c}(par{d}))) par{e})");
        settled(y, 4, 3, 2, "doc(par{a}(par{b}(par{d} par{c})) par{e})");
        C.by("for 1 the NODE stands (WORD and parent of the side that has it), or is gone.");
        TreeMerge z = merged(PARS, NEST, "t4", "r4x, m4 5 0", "1004");
        settled(z, 4, 1, 1, "doc(par{a}(par{b}(par{c})) par{e})");
        settled(z, 4, 1, 2, "doc(par{a}(par{b}(par{c})) par{e}(par{x}))");
        C.by("All are gone, too, whose parents lead to one that is gone.");
        TreeMerge w = merged(PARS, "doc(par{a} par{b} par{c} par{d})", "m3 4 0, m2 3 0, m1 2 0, p1 0 1n, p5 0 1m", "t4", "1004");
        settled(w, 4, 1, 2, "doc");
        settled(w, 4, 1, 1, "doc(par{d}(par{c}(par{b}(par{a}(par{n}(par{m}))))))");
        TreeMerge t = merged("doc = tags* par* ; par = tags* par* ; tags set tag ; tag leaf ;", "doc(tags par{a} par{b})",
                "m2 3 0, m1 2 0, p1 0 3t", "t3, p1 0 3t", "1003");
        settled(t, 3, 1, 1, "7001");
        settled(t, 3, 1, 2, "doc");
        TreeMerge v = merged(PARS, NEST, "t3, t2, t1", "r3x, m4 2 0", "1001 1002 1003");
        settled(v, 1, 1, 2, "1002 1003");
        settled(v, 3, 1, 2, "1002");
        settled(v, 2, 1, 1, "doc(par{a} par{e})");
        settled(v, 2, 1, 2, "doc(par{a}(par{b}(par{d} par{x})) par{e})");
        TreeMerge u = merged(PARS, "doc(par{a} par{b} par{c})", "m2 1 0, m1 3 0", "m1 2 0, t3", "1003 3001");
        settled(u, 3, 1, 2, "3001");
        settled(u, 1, 3, 1, "doc");
        settled(u, 1, 3, 2, "4001");
    }

    private static void bases() {
        C.by("The BASE of two EDITIONS: of those from which both come (each comes from itself) those from which no other "
                + "such one comes.");
        TreeMerge x = Calls.with(PARS);
        Calls.first(x, "doc(par{a} par{b})");
        Calls.first(x, "doc(par{a} par{b})");
        edit(x, 0, "r1c");
        edit(x, 2, "r1d");
        edit(x, 2, "r2e");
        C.due("one and itself", x.base(3, 3), 3);
        C.due("one and that from which it comes", x.base(3, 2) * 100 + x.base(2, 3), 202);
        C.due("two from one", x.base(3, 4), 2);
        C.due("from the first", x.base(0, 4), 0);
        C.due("none in common", x.base(0, 1), -1);
        C.due("none in common", x.base(1, 4), -1);
        C.by("If there are two or more they are CROSSED: the base is what the two with the least numbers give, merged on "
                + "theirs, if that is one EDITION (not made so) and there is no QUARREL; else there is no BASE.");
        C.due("merged", x.merge(3, 4) * 100 + x.merge(4, 3), 506);
        C.due("made", x.base(5, 6), 100);
        C.due("no edition came of it", x.count(1), 7);
        C.due("merged on it", x.merge(5, 6) * 100 + x.merge(6, 5), 708);
        C.due("theirs would be made", x.base(7, 8), -1);
        C.due("so nothing is merged", x.merge(7, 8), -1);
        three();
        crossedQuarrel();
    }

    /** Of three the two with the least numbers make the base: what the third put is in both, but not in it. */
    private static void three() {
        TreeMerge x = Calls.with(PARS);
        Calls.first(x, "doc");
        for (String put : new String[] {"p0 0 1a", "p0 0 1b", "p0 0 1c"}) edit(x, 0, put);
        C.due("a and b", x.merge(1, 2), 4);
        C.due("and c", x.merge(4, 3), 5);
        C.due("c and b", x.merge(3, 2), 6);
        C.due("and a", x.merge(6, 1), 7);
        C.due("three in common", x.base(5, 7), 100);
        edit(x, 5, "r1x, r2x");
        C.due("what a and b put is in the base", told(x, x.merge(8, 7)), "doc(par{x} par{x} par{c})");
        edit(x, 5, "r3x");
        C.due("what c put isn't", told(x, x.merge(10, 7)), "2003");
        TreeMerge y = Calls.with(PARS);
        Calls.first(y, "doc");
        edit(y, 0, "p0 0 1a, p0 0 1b");
        edit(y, 0, "");
        for (int side = 1; side <= 2; side++) edit(y, 1, "r" + side + "n");
        C.due("merged both ways", y.merge(3, 4) * 100 + y.merge(4, 3), 506);
        C.due("theirs is edition 1", y.base(5, 6), 100);
        C.due("merged on what they make", told(y, y.merge(edit(y, 5, "r1z"), 6)), "doc(par{n} par{z})");
    }

    private static void crossedQuarrel() {
        TreeMerge x = merged(PARS, "doc(par{a} par{b})", "r1x", "r1y", "2001");
        settled(x, 1, 2, 1, "doc(par{x} par{b})");
        C.due("made as settled", x.base(3, 4), 100);
        x.unsettle();
        C.due("a quarrel", x.base(3, 4), -1);
        C.due("nothing is merged", x.merge(3, 4), -1);
        x.settle(1, 2, 0);
        C.due("settled for none of them", x.base(3, 4), -1);
        x.settle(1, 2, 2);
        C.due("made as settled", x.base(3, 4), 100);
    }

    private static void outcomes() {
        C.by("Without QUARRELS what stands becomes an EDITION with both parents; if one comes from the other (or both are "
                + "one), none comes, and it is the one that does.");
        TreeMerge x = merged(PARS, "doc(par{a})", "r1x", "r0y", "doc{y}(par{x})");
        C.due("its parents", x.parent(3, 0) + " " + x.parent(3, 1), "1 2");
        C.due("the other way", x.parent(4, 0) + " " + x.parent(4, 1), "2 1");
        C.due("with itself", x.merge(1, 1), 1);
        C.due("with its parent", x.merge(1, 0) * 10 + x.merge(0, 1), 11);
        C.due("with what comes from it", x.merge(2, 4) * 10 + x.merge(4, 2), 44);
        C.due("none came", x.count(1), 5);
        C.by("CARRIED is an EDITION with one parent to another one: merged with it on that parent; "
                + "TAKEN BACK out of an EDITION that comes from it: its parent merged with that on it itself.");
        TreeMerge y = Calls.with(PARS);
        Calls.first(y, "doc(par{a} par{b} par{c})");
        edit(y, 0, "r1x");
        edit(y, 1, "r2y");
        edit(y, 0, "r3z");
        C.due("carried", told(y, y.carry(2, 3)), "doc(par{a} par{y} par{z})");
        C.due("taken back", told(y, y.back(1, 2)), "doc(par{a} par{y} par{c})");
        C.by("What stands is an EDITION with the one parent to which it is carried, or out of which it is taken.");
        C.due("carried to", y.parent(4, 0) + " " + y.parent(4, 1), "3 -1");
        C.due("taken out of", y.parent(5, 0) + " " + y.parent(5, 1), "2 -1");
        C.due("it comes from that", y.from(4, 3) && y.from(5, 2), true);
        C.due("not from what is carried", y.from(4, 2) || y.from(4, 1), false);
    }

    private static void basesRefused() {
        C.by("its number, 100 if it is made of CROSSED ones; NONE if there is none, or none such.");
        TreeMerge x = new TreeMerge();
        C.due("without editions", x.base(0, 0), -1);
        x = merged(PARS, "doc(par{a})", "r1x", "r0y", "doc{y}(par{x})");
        for (int far : FAR) {
            C.due("base(0, " + far + ")", x.base(0, far), -1);
            C.due("base(" + far + ", 0)", x.base(far, 0), -1);
            C.due("base(" + far + ", " + far + ")", x.base(far, far), -1);
        }
        C.due("the first that isn't", x.base(5, 0), -1);
        C.due("the last that is", x.base(4, 0), 0);
        C.due("made", x.base(3, 4), 100);
    }

    private static void merges() {
        C.by("Two EDITIONS merged: the EDITION; NONE with QUARRELS, if there are none such, they have no BASE, "
                + "or 12 came (ahead of all else but one that comes from the other).");
        TreeMerge x = new TreeMerge();
        C.due("without editions", x.merge(0, 0), -1);
        x = merged(PARS, "doc(par{a})", "r1x", "r1y", "2001");
        for (int far : FAR) {
            C.due("merge(0, " + far + ")", x.merge(0, far), -1);
            C.due("merge(" + far + ", 0)", x.merge(far, 0), -1);
            C.due("merge(" + far + ", " + far + ")", x.merge(far, far), -1);
        }
        C.due("the first that isn't", x.merge(3, 0), -1);
        C.due("the quarrels told", Calls.quarrels(x), "2001");
        Calls.first(x, "doc");
        C.due("without a base", x.merge(1, 3), -1);
        edit(x, 0, "r0z");
        while (x.count(1) < 11) edit(x, 0, "");
        C.due("the 12th", x.merge(1, 4), 11);
        C.due("no quarrels", x.quarrel(-1), 0);
        C.due("12 came", x.merge(2, 4), -1);
        C.due("12 came, ahead of quarrels", x.merge(1, 2), -1);
        C.due("none are told", x.quarrel(-1), 0);
        C.due("12 came, none such", x.merge(0, 12), -1);
        C.due("12 came, without a base", x.merge(1, 3), -1);
        C.due("one that comes from the other", x.merge(1, 11) * 100 + x.merge(11, 4), 1111);
        C.due("one and itself", x.merge(2, 2), 2);
    }

    private static void carries() {
        C.by("An EDITION CARRIED to another one; NONE with QUARRELS, if there are none such, it hasn't just one parent, "
                + "there is no EDITION from which both come, or 12 came.");
        TreeMerge x = new TreeMerge();
        C.due("without editions", x.carry(0, 0), -1);
        x = merged(PARS, "doc(par{a})", "r1x", "r0y", "doc{y}(par{x})");
        Calls.first(x, "doc(par{a})");
        for (int far : FAR) {
            C.due("carry(1, " + far + ")", x.carry(1, far), -1);
            C.due("carry(" + far + ", 1)", x.carry(far, 1), -1);
        }
        C.due("no parent", x.carry(0, 1), -1);
        C.due("two parents", x.carry(3, 1), -1);
        C.due("none from which both come", x.carry(1, 5), -1);
        C.due("none came", x.count(1), 6);
        C.due("with a quarrel", told(x, x.carry(1, edit(x, 2, "r1z"))), "2001");
        C.due("to one with two parents", told(x, x.carry(1, 4)), "doc{y}(par{x})");
        C.due("to one without", told(x, x.carry(1, 0)), "doc(par{x})");
        C.due("to itself", told(x, x.carry(1, 1)), "doc(par{x})");
        C.due("its parent", x.parent(9, 0), 1);
        while (x.count(1) < 11) edit(x, 0, "");
        C.due("the 12th", x.carry(2, 0), 11);
        C.due("12 came", x.carry(2, 0), -1);
        C.due("12 came", x.count(1), 12);
    }

    private static void backs() {
        C.by("An EDITION TAKEN BACK out of another one that comes from it; NONE likewise, or if that doesn't come from it, "
                + "or is it.");
        TreeMerge x = new TreeMerge();
        C.due("without editions", x.back(0, 0), -1);
        x = merged(PARS, "doc(par{a})", "r1x", "r0y", "doc{y}(par{x})");
        for (int far : FAR) {
            C.due("back(1, " + far + ")", x.back(1, far), -1);
            C.due("back(" + far + ", 1)", x.back(far, 1), -1);
            C.due("back(" + far + ", " + far + ")", x.back(far, far), -1);
        }
        edit(x, 3, "r1z");
        C.due("no parent", x.back(0, 1), -1);
        C.due("two parents", x.back(3, 5), -1);
        C.due("that doesn't come from it", x.back(1, 2), -1);
        C.due("its parent", x.back(1, 0), -1);
        C.due("itself", x.back(1, 1), -1);
        C.due("none came", x.count(1), 6);
        C.due("with a quarrel", told(x, x.back(1, 5)), "2001");
        C.due("out of one with two parents", told(x, x.back(1, 3)), "doc{y}(par{a})");
        C.due("out of one that has it over two", told(x, x.back(2, 5)), "doc(par{z})");
        while (x.count(1) < 11) edit(x, 0, "");
        C.due("the 12th", x.back(1, 4), 11);
        C.due("12 came", x.back(1, 4), -1);
        C.due("12 came", x.count(1), 12);
    }

    private static void quarrels() {
        C.by("QUARRELS of the latest merging that was tried: how many (k NONE), or the k-th by kind, then by NODE: "
                + "kind * 1000 + NODE; NONE if there is none such.");
        TreeMerge x = new TreeMerge();
        C.due("none yet", x.quarrel(-1), 0);
        C.due("none yet", x.quarrel(0), -1);
        x = merged(PARS, NEST, "t5, r4x, r1x", "r5y, r4y, r1y", "1005 2001 2004");
        C.due("how many", x.quarrel(-1), 3);
        C.due("the first", x.quarrel(0), 1005);
        C.due("the last", x.quarrel(2), 2004);
        for (int k : new int[] {3, 4, 100, -2, -3, Integer.MIN_VALUE, Integer.MAX_VALUE}) {
            C.due("quarrel(" + k + ")", x.quarrel(k), -1);
        }
        edit(x, 0, "");
        C.due("one without", x.merge(1, 3), 4);
        C.due("none any more", x.quarrel(-1), 0);
        C.due("none any more", x.quarrel(0), -1);
        StringBuilder one = new StringBuilder("r0x");
        StringBuilder other = new StringBuilder("r0y");
        StringBuilder all = new StringBuilder("2000");
        for (int n = 1; n < 24; n++) {
            one.append(", r").append(n).append("x");
            other.append(", r").append(n).append("y");
            all.append(" ").append(2000 + n);
        }
        merged(PARS, "doc(" + "par ".repeat(23) + ")", one.toString(), other.toString(), all.toString());
    }

    private static void quarrelsStay() {
        C.by("(QUARRELS told are those of the latest merge(), carry() or back() for which there were two sides and a base, "
                + "none of them from the other with merge(); merging for a base that is made doesn't count).");
        TreeMerge x = merged(PARS, "doc(par{a} par{b})", "r1x", "r1y", "2001");
        settled(x, 1, 2, 1, "doc(par{x} par{b})");
        x.unsettle();
        Calls.first(x, "doc");
        edit(x, 0, "r2k");
        edit(x, 0, "r2l");
        C.due("told", told(x, x.merge(6, 7)), "2002");
        C.due("one from the other", x.merge(0, 6), 6);
        C.due("both one", x.merge(6, 6), 6);
        C.due("none such", x.merge(0, 8), -1);
        C.due("no base", x.merge(5, 6), -1);
        C.due("a base that can't be made", x.merge(3, 4), -1);
        C.due("asked alone", x.base(3, 4), -1);
        C.due("without one parent", x.carry(0, 6), -1);
        C.due("to none such", x.carry(1, 8), -1);
        C.due("none from which both come", x.carry(1, 5), -1);
        C.due("out of none such", x.back(1, 8), -1);
        C.due("out of itself", x.back(1, 1), -1);
        C.due("out of one that doesn't come from it", x.back(1, 2), -1);
        C.due("the quarrels told stay", Calls.quarrels(x), "2002");
        C.due("carry() tells", told(x, x.carry(1, 2)), "2001");
        edit(x, 1, "r1z");
        C.due("merge() tells", told(x, x.merge(6, 7)), "2002");
        C.due("back() tells", told(x, x.back(1, 8)), "2001");
        C.due("merge() without any", told(x, x.merge(6, 1)), "doc(par{x} par{k})");
        C.due("tells none", x.quarrel(-1), 0);
        x.merge(6, 7);
        C.due("carry() to what comes from it", told(x, x.carry(1, 8)), "2001");
        x.merge(6, 7);
        x.settle(1, 2, 2);
        C.due("merged on a made base", told(x, x.merge(3, 4)), "doc(par{x} par{b})");
        C.due("tells none", x.quarrel(-1), 0);
    }

    private static void settlesRefused() {
        C.by("SETTLED: true; false if there is no such NODE or EDITION, or kind isn't 1 .. 3.");
        TreeMerge x = new TreeMerge();
        C.due("without nodes", x.settle(0, 1, 0), false);
        x = Calls.with(PARS);
        Calls.first(x, "doc(par par)");
        C.due("node -1", x.settle(-1, 1, 0), false);
        C.due("node 3 of 3", x.settle(3, 1, 0), false);
        C.due("kind 0", x.settle(0, 0, 0), false);
        C.due("kind 4", x.settle(0, 4, 0), false);
        C.due("edition 1 of 1", x.settle(0, 1, 1), false);
        for (int far : FAR) {
            C.due("node " + far, x.settle(far, 1, 0), false);
            C.due("kind " + far, x.settle(0, far, 0), false);
            C.due("edition " + far, x.settle(0, 1, far), false);
        }
        C.due("none", x.count(5), 0);
        int settled = 0;
        for (int node = 0; node < 3; node++) {
            for (int kind = 1; kind <= 3; kind++) {
                C.due("settle(" + node + ", " + kind + ", 0)", x.settle(node, kind, 0), true);
                settled++;
                C.due("settled", x.count(5), settled);
                C.due("again", x.settle(node, kind, 0), true);
                C.due("settled", x.count(5), settled);
            }
        }
        x.begin(0);
        C.due("a number of the draft", x.settle(x.put(0, 0, 1, 0), 1, 0), true);
        C.due("the next one", x.settle(4, 1, 0), false);
        C.due("edition 12 isn't the draft", x.settle(0, 1, 12), false);
        C.by("Nothing is SETTLED any more: how many were.");
        C.due("unsettle()", x.unsettle(), 10);
        C.due("settled", x.count(5), 0);
        C.due("unsettle() again", x.unsettle(), 0);
        C.due("settle", x.settle(2, 3, 0), true);
        C.due("unsettle()", x.unsettle(), 1);
        TreeMerge y = Calls.with(PARS);
        for (int i = 0; i < 6; i++) Calls.first(y, "doc(" + "par ".repeat(23) + ")");
        Calls.first(y, "doc(par par par par par)");
        for (int node = 0; node < 150; node++) {
            for (int kind = 1; kind <= 3; kind++) C.due("settle", y.settle(node, kind, node % 7), true);
        }
        C.due("the 151st node", y.settle(150, 1, 0), false);
        C.due("all of them", y.count(5), 450);
        C.due("unsettle()", y.unsettle(), 450);
    }

    /** Editions of trees that have nothing in common don't get in each other's way. */
    private static void apart() {
        C.by("NODES in both sides, or not in the base and in one.");
        TreeMerge x = Calls.with("doc = par par* ; par leaf ;");
        Calls.first(x, "doc(par{a})");
        Calls.first(x, "doc(par{b})");
        edit(x, 0, "r1c");
        edit(x, 0, "r0d");
        edit(x, 1, "r3e");
        edit(x, 1, "r2f");
        C.due("of the first", told(x, x.merge(2, 3)), "doc{d}(par{c})");
        C.due("of the second", told(x, x.merge(4, 5)), "doc{f}(par{e})");
        C.due("of the first again", told(x, x.merge(3, 2)), "doc{d}(par{c})");
        C.due("its numbers", Calls.numbers(x, 6) + ", " + Calls.numbers(x, 7), "0 1, 2 3");
    }

    public static void main(String[] args) {
        touched();
        wordsAndParents();
        ringsAndCrowds();
        ordersAndFits();
        whatStands();
        settles();
        bases();
        outcomes();
        basesRefused();
        merges();
        carries();
        backs();
        quarrels();
        quarrelsStay();
        settlesRefused();
        apart();
        C.finish("BoundsMergeTest");
    }
}
