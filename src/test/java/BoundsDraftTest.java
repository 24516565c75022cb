/** Part 4 of the document and promises 10 to 16: each sentence that names a bound, held at that bound. */
public final class BoundsDraftTest {
    private static final Calls C = new Calls();
    private static final String PARS = "doc = par* ; par = par* ;";
    private static final String G = "doc = par* tags? ; par = par* ; tags set tag par ; tag leaf ;";
    private static final int[] FAR = {-2, -1, 12, 13, 150, Integer.MIN_VALUE, Integer.MAX_VALUE};

    /** doc 0, par{a} 1, par{b} 2, par{c} 3, tags 4, par{q} 5, tag{x} 6 */
    private static TreeMerge started() {
        TreeMerge x = Calls.with(G);
        Calls.first(x, "doc(par{a}(par{b}) par{c} tags(tag{x} par{q}))");
        return x;
    }

    private static TreeMerge begun() {
        TreeMerge x = started();
        x.begin(0);
        return x;
    }

    private static String all(TreeMerge x) {
        StringBuilder s = new StringBuilder();
        for (int n = 0; n < x.count(2); n++) {
            if (x.of(12, n, 0) >= 0) s.append(n).append("(").append(Calls.children(x, 12, n)).append(")");
        }
        return s.toString();
    }

    private static void copies() {
        C.by("A DRAFT is begun on an EDITION: a copy, changed by: PUT a new NODE (KIND, WORD) under a NODE at a place; "
                + "TAKE one without children; MOVE one (with all under it) under another NODE at a place; RENAME.");
        TreeMerge x = begun();
        C.due("a copy", all(x), "0(1 3 4)1(2)2()3()4(5 6)5()6()");
        C.due("put", x.put(1, 1, 1, 'n'), 7);
        C.due("take", x.take(3), true);
        C.due("move", x.move(1, 5, 0), true);
        C.due("rename", x.rename(2, 'm'), true);
        C.due("changed", all(x), "0(4)1(2 7)2()4(5 6)5(1)6()7()");
        C.due("the edition isn't", Calls.printed(x, 0), "doc(par{a}(par{b}) par{c} tags(par{q} tag{x}))");
        C.due("close", x.close(), 1);
        C.due("what came", Calls.printed(x, 1), "doc(tags(par{q}(par{a}(par{m} par{n})) tag{x}))");
    }

    private static void places() {
        C.by("Places are 0 .. how many children there are (without the one that is moved);");
        TreeMerge x = begun();
        C.due("put at -1", x.put(0, -1, 1, 0), -1);
        C.due("put at 4 of 3", x.put(0, 4, 1, 0), -1);
        C.due("put at 1 of 0", x.put(3, 1, 1, 0), -1);
        C.due("put at least", x.put(0, Integer.MIN_VALUE, 1, 0), -1);
        C.due("put at most", x.put(0, Integer.MAX_VALUE, 1, 0), -1);
        C.due("put at 3 of 3", x.put(0, 3, 1, 0), 7);
        C.due("put at 0", x.put(0, 0, 1, 0), 8);
        C.due("put at 0 of 0", x.put(3, 0, 1, 0), 9);
        C.due("the order", Calls.children(x, 12, 0), "8 1 3 4 7");
        C.due("move at -1", x.move(8, 0, -1), false);
        C.due("move at 5 of 4 others", x.move(8, 0, 5), false);
        C.due("move at 4 of 4 others", x.move(8, 0, 4), true);
        C.due("the order", Calls.children(x, 12, 0), "1 3 4 7 8");
        C.due("move at 0", x.move(8, 0, 0), true);
        C.due("the order", Calls.children(x, 12, 0), "8 1 3 4 7");
        C.due("move from elsewhere at 6 of 5", x.move(2, 0, 6), false);
        C.due("move from elsewhere at 5 of 5", x.move(2, 0, 5), true);
        C.due("the order", Calls.children(x, 12, 0), "8 1 3 4 7 2");
        C.due("move at 1 of 0", x.move(2, 1, 1), false);
        C.due("move at 0 of 0", x.move(2, 1, 0), true);
        C.due("move the only one at 1", x.move(2, 1, 1), false);
        C.due("move the only one at 0", x.move(2, 1, 0), true);
        C.by("under a set the place doesn't matter.");
        for (int place : new int[] {0, 1, 2, 3, 99, -1, Integer.MIN_VALUE, Integer.MAX_VALUE}) {
            TreeMerge y = begun();
            C.due("put under a set at " + place, y.put(4, place, 3, 'a'), 7);
            C.due("its order", Calls.children(y, 12, 4), "5 7 6");
            C.due("move under a set at " + place, y.move(3, 4, place), true);
            C.due("its order", Calls.children(y, 12, 4), "3 5 7 6");
            C.due("move within a set at " + place, y.move(6, 4, place), true);
            C.due("its order", Calls.children(y, 12, 4), "3 5 7 6");
        }
    }

    private static void outermostAndUnder() {
        C.by("The outermost one can't be taken or moved, and none goes under itself or what is under it.");
        TreeMerge x = begun();
        C.due("move the outermost", x.move(0, 3, 0), false);
        C.due("move the outermost under a set", x.move(0, 4, 0), false);
        C.due("under itself", x.move(1, 1, 0), false);
        C.due("a set under itself", x.move(4, 4, 0), false);
        C.due("under what is under it", x.move(1, 2, 0), false);
        x.put(2, 0, 1, 0);
        C.due("two levels under it", x.move(1, 7, 0), false);
        C.due("a child under its parent's sibling", x.move(2, 3, 0), true);
        C.due("now it isn't under it", x.move(1, 7, 0), true);
        C.due("and the other way now it is", x.move(3, 1, 0), false);
        TreeMerge y = Calls.with(PARS);
        Calls.first(y, "doc");
        y.begin(0);
        C.due("take the outermost, alone", y.take(0), false);
        C.due("move the outermost, alone", y.move(0, 0, 0), false);
        C.due("rename it", y.rename(0, 'a'), true);
    }

    private static void most() {
        C.by("At most 24 NODES. Closed, it is an EDITION with that parent, if it FITS. One at a time.");
        TreeMerge x = Calls.with(PARS);
        Calls.first(x, "doc(" + "par ".repeat(22) + ")");
        x.begin(0);
        C.due("the 24th", x.put(5, 0, 1, 0), 23);
        C.due("a 25th", x.put(5, 0, 1, 0), -1);
        C.due("no number came", x.count(2), 24);
        C.due("begin() again", x.begin(0), false);
        C.due("close()", x.close(), 1);
        C.due("24 nodes", x.node(1, -1), 24);
        C.due("its parent", x.parent(1, 0), 0);
        C.due("begin() on 24", x.begin(1), true);
        C.due("a 25th", x.put(0, 0, 1, 0), -1);
        C.due("take", x.take(1), true);
        C.due("the 24th again", x.put(0, 0, 1, 0), 24);
        C.due("a 25th again", x.put(0, 0, 1, 0), -1);
        C.due("drop()", x.drop(), true);
        TreeMerge y = begun();
        C.due("beside it none is begun", y.begin(0), false);
        y.put(6, 0, 3, 0);
        C.due("what doesn't fit", y.close(), -1);
        C.due("is no edition", y.count(1), 1);
    }

    private static void beginning() {
        C.by("A DRAFT is begun: true; false if there is one, or no such EDITION.");
        TreeMerge x = new TreeMerge();
        C.due("without editions", x.begin(0), false);
        x = started();
        for (int edition : FAR) C.due("begin(" + edition + ")", x.begin(edition), false);
        C.due("begin(1) of 1", x.begin(1), false);
        C.due("no draft", x.count(4), 0);
        C.due("begin(0)", x.begin(0), true);
        C.due("a draft", x.count(4), 1);
        x.rename(1, 'z');
        C.due("begin(0) again", x.begin(0), false);
        C.due("it is the one that was begun", x.word(12, 1), 'z');
        C.due("drop", x.drop(), true);
        C.due("begin(0)", x.begin(0), true);
        C.due("a new copy", x.word(12, 1), 'a');
    }

    private static void dropping() {
        C.by("The DRAFT is no more: true; false if there is none.");
        TreeMerge x = started();
        C.due("without one", x.drop(), false);
        x.begin(0);
        x.put(0, 0, 1, 0);
        C.due("drop()", x.drop(), true);
        C.due("no draft", x.count(4), 0);
        C.due("none of its nodes", x.of(12, 0, 0), -1);
        C.due("no edition", x.count(1), 1);
        C.due("drop() again", x.drop(), false);
        C.due("close()", x.close(), -1);
        x.begin(0);
        x.close();
        C.due("drop() behind close()", x.drop(), false);
    }

    private static void wordsOfPut() {
        C.by("PUT: the NODE's number. The WORD is the bytes of word from the highest to the lowest, zeros left out (0: none).");
        TreeMerge x = begun();
        C.due("none", x.put(0, 0, 1, 0), 7);
        C.due("its word", x.word(12, 7), 0);
        C.due("one byte, the lowest", x.put(0, 0, 1, 0x61), 8);
        C.due("its word", x.word(12, 8), 0x61);
        C.due("one byte, the highest", x.put(0, 0, 1, 0x6100000000000000L), 9);
        C.due("its word", x.word(12, 9), 0x61);
        C.due("eight bytes", x.put(0, 0, 1, 0x7a30396162636465L), 10);
        C.due("its word", x.word(12, 10), 0x7a30396162636465L);
        C.due("zeros between", x.put(0, 0, 1, 0x0061006200003000L), 11);
        C.due("its word", x.word(12, 11), 0x616230);
        C.due("close", x.close(), 1);
        C.due("printed", Calls.printed(x, 1).substring(0, 49), "doc(par{ab0} par{z09abcde} par{a} par{a} par par{");
    }

    private static void putsRefused() {
        C.by("NONE without a DRAFT, if there is no such NODE in it, KIND or place, a byte is no small letter or digit, "
                + "24 are in it, or 150 came.");
        C.due("without a draft", started().put(0, 0, 1, 0), -1);
        TreeMerge x = begun();
        x.take(2);
        for (int node : FAR) C.due("put under " + node, x.put(node, 0, 1, 0), -1);
        C.due("under one that was taken", x.put(2, 0, 1, 0), -1);
        C.due("under one that isn't yet", x.put(7, 0, 1, 0), -1);
        for (int kind : FAR) C.due("put of kind " + kind, x.put(0, 0, kind, 0), -1);
        C.due("kind 4 of 4", x.put(0, 0, 4, 0), -1);
        for (int at = 0; at < 8; at++) {
            for (int b = 1; b < 256; b++) {
                boolean can = b >= 'a' && b <= 'z' || b >= '0' && b <= '9';
                if (!can) C.due("byte " + b + " at " + at, x.put(0, 0, 1, (long) b << 8 * at), -1);
                if (!can) C.due("byte " + b + " at " + at, x.put(0, 0, 1, Calls.word("aaaaaaaa") & ~(255L << 8 * at) | (long) b << 8 * at), -1);
            }
        }
        C.due("no number came", x.count(2), 7);
        C.due("nothing was put", all(x), "0(1 3 4)1()3()4(5 6)5()6()");
        String can = "0123456789abcdefghijklmnopqrstuvwxyz";
        for (int i = 0; i < can.length(); i++) {
            C.due("byte " + can.charAt(i), x.put(0, 0, 1, can.charAt(i)), 7 + i);
            x.take(7 + i);
        }
        C.due("kind 3 of 4", x.put(0, 0, 3, 0), 43);
        C.due("kind 0", x.put(0, 0, 0, 0), 44);
    }

    private static void lastNumber() {
        C.by("24 are in it, or 150 came.");
        TreeMerge x = Calls.with(PARS);
        for (int i = 0; i < 6; i++) Calls.first(x, "doc(" + "par ".repeat(23) + ")");
        Calls.first(x, "doc(par par par par)");
        x.begin(6);
        C.due("the 150th", x.put(144, 0, 1, 0), 149);
        C.due("a 151st", x.put(144, 0, 1, 0), -1);
        C.due("numbers", x.count(2), 150);
        C.due("take it", x.take(149), true);
        C.due("numbers don't come back", x.put(144, 0, 1, 0), -1);
        C.due("drop", x.drop(), true);
        x.begin(6);
        C.due("nor by drop()", x.put(144, 0, 1, 0), -1);
        C.due("what is there can be moved", x.move(148, 147, 0), true);
        C.due("and renamed", x.rename(148, 'a'), true);
        C.due("and closed", x.close(), 7);
    }

    /** A merged edition may have more than 24 nodes; a draft on it can't grow. */
    private static void draftOnMany() {
        C.by("24 are in it,");
        TreeMerge x = Calls.with(PARS);
        Calls.first(x, "doc");
        String[] many = new String[13];
        java.util.Arrays.fill(many, "p0 0 1");
        int m = x.merge(Calls.edit(x, 0, many), Calls.edit(x, 0, many));
        C.due("27 nodes", x.node(m, -1), 27);
        C.due("begin", x.begin(m), true);
        for (int n = 1; n <= 3; n++) {
            C.due("put with " + (28 - n), x.put(0, 0, 1, 0), -1);
            C.due("take", x.take(n), true);
        }
        C.due("put with 24", x.put(0, 0, 1, 0), -1);
        C.due("take", x.take(4), true);
        C.due("put with 23", x.put(0, 0, 1, 0), 27);
        C.due("put with 24", x.put(0, 0, 1, 0), -1);
        C.due("close", x.node(x.close(), -1), 24);
    }

    private static void taking() {
        C.by("TAKE: true; false without a DRAFT, if there is no such NODE in it, it has children, or is outermost.");
        C.due("without a draft", started().take(2), false);
        TreeMerge x = begun();
        for (int node : FAR) C.due("take(" + node + ")", x.take(node), false);
        C.due("take(7) of 7", x.take(7), false);
        C.due("with one child", x.take(1), false);
        C.due("with two", x.take(4), false);
        C.due("the outermost", x.take(0), false);
        C.due("nothing was taken", all(x), "0(1 3 4)1(2)2()3()4(5 6)5()6()");
        C.due("the last", x.take(6), true);
        C.due("again", x.take(6), false);
        C.due("with the other", x.take(4), false);
        C.due("the other", x.take(5), true);
        C.due("without children", x.take(4), true);
        C.due("what is left", all(x), "0(1 3)1(2)2()3()");
    }

    private static void moving() {
        C.by("MOVE: true; false if it can't be.");
        C.due("without a draft", started().move(2, 0, 0), false);
        TreeMerge x = begun();
        for (int far : FAR) {
            C.due("move(" + far + ", 0, 0)", x.move(far, 0, 0), false);
            C.due("move(2, " + far + ", 0)", x.move(2, far, 0), false);
        }
        C.due("none such", x.move(7, 0, 0), false);
        C.due("under none such", x.move(2, 7, 0), false);
        C.due("nothing was moved", all(x), "0(1 3 4)1(2)2()3()4(5 6)5()6()");
        C.due("where it is", x.move(1, 0, 0), true);
        C.due("as it was", all(x), "0(1 3 4)1(2)2()3()4(5 6)5()6()");
        C.due("under a leaf", x.move(1, 6, 0), true);
        C.due("with what is under it", all(x), "0(3 4)1(2)2()3()4(5 6)5()6(1)");
        x.take(3);
        C.due("what was taken", x.move(3, 0, 0), false);
        C.due("under what was taken", x.move(2, 3, 0), false);
        TreeMerge y = Calls.with(PARS);
        Calls.first(y, "doc(" + "par ".repeat(23) + ")");
        y.begin(0);
        C.due("with 24 in it", y.move(1, 2, 0), true);
    }

    private static void renaming() {
        C.by("RENAME: true; false without a DRAFT, if there is no such NODE in it, a byte can't be, or it is its WORD.");
        C.due("without a draft", started().rename(1, 'z'), false);
        TreeMerge x = begun();
        for (int node : FAR) C.due("rename(" + node + ")", x.rename(node, 'z'), false);
        C.due("rename(7) of 7", x.rename(7, 'z'), false);
        for (int b : new int[] {1, 10, 32, 47, 58, 64, 65, 90, 91, 96, 123, 125, 127, 128, 255}) {
            C.due("byte " + b, x.rename(1, b), false);
            C.due("byte " + b + ", the highest", x.rename(1, (long) b << 56 | 'a'), false);
        }
        C.due("-1", x.rename(1, -1), false);
        C.due("its word", x.rename(1, 'a'), false);
        C.due("its word, the zeros behind it", x.rename(1, 0x6100000000000000L), false);
        C.due("none to none", x.rename(0, 0), false);
        C.due("as it was", x.word(12, 1), 'a');
        C.due("one byte more", x.rename(1, Calls.word("aa")), true);
        C.due("to eight", x.rename(1, Calls.word("zz99aa00")), true);
        C.due("its word", x.word(12, 1), Calls.word("zz99aa00"));
        C.due("to none", x.rename(1, 0), true);
        C.due("to none again", x.rename(1, 0), false);
        C.due("its word", x.word(12, 1), 0);
        C.due("back to its first", x.rename(1, 'a'), true);
        x.take(2);
        C.due("what was taken", x.rename(2, 'z'), false);
    }

    private static void closing() {
        C.by("The DRAFT is closed: the EDITION; NONE without one, if it doesn't FIT (it stays), or 12 came.");
        TreeMerge x = started();
        C.due("without one", x.close(), -1);
        x.begin(0);
        C.due("unchanged", x.close(), 1);
        C.due("closed", x.count(4), 0);
        C.due("again", x.close(), -1);
        x.begin(1);
        C.due("a child of a leaf", x.put(6, 0, 3, 0), 7);
        C.due("it doesn't fit", x.close(), -1);
        C.due("it stays", x.count(4), 1);
        C.due("as it was", x.of(12, 7, 1), 6);
        x.take(7);
        C.due("it fits", x.close(), 2);
        x.begin(0);
        x.put(4, 0, 3, 'x');
        C.due("likes in a set", x.close(), -1);
        x.rename(8, 'y');
        C.due("no more likes", x.close(), 3);
        x.begin(0);
        x.put(0, 0, 2, 0);
        C.due("out of order", x.close(), -1);
        x.drop();
        for (int e = 4; e < 12; e++) {
            x.begin(e - 1);
            C.due("close()", x.close(), e);
            C.due("its parent", x.parent(e, 0), e - 1);
        }
        x.begin(11);
        x.rename(0, 'k');
        C.due("12 came", x.close(), -1);
        C.due("it stays", x.count(4), 1);
        C.due("as it was", x.word(12, 0), 'k');
        C.due("editions", x.count(1), 12);
    }

    public static void main(String[] args) {
        copies();
        places();
        outermostAndUnder();
        most();
        beginning();
        dropping();
        wordsOfPut();
        putsRefused();
        lastNumber();
        draftOnMany();
        taking();
        moving();
        renaming();
        closing();
        C.finish("BoundsDraftTest");
    }
}
