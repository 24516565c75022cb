/** Promises 10 to 16: begin, drop, put, take, move, rename, close. */
public final class DraftTest {
    private static final Calls C = new Calls();
    private static final String G = "doc = par* tags? ; par = par* ; tags set tag par ; tag leaf ;";

    private static TreeMerge started() {
        TreeMerge x = Calls.with(G);
        // numbers: doc 0, par{a} 1, par{b} 2, par{c} 3, tags 4, par{q} 5, tag{x} 6
        Calls.first(x, "doc(par{a}(par{b}) par{c} tags(tag{x} par{q}))");
        return x;
    }

    private static String children(TreeMerge x, int node) {
        return Calls.children(x, 12, node);
    }

    private static void beginning() {
        TreeMerge x = started();
        C.due("no draft", x.count(4), 0);
        C.due("drop() without one", x.drop(), false);
        C.due("close() without one", x.close(), -1);
        C.due("begin(1)", x.begin(1), false);
        C.due("begin(-1)", x.begin(-1), false);
        C.due("begin(12)", x.begin(12), false);
        C.due("begin(0)", x.begin(0), true);
        C.due("a draft", x.count(4), 1);
        C.due("begin(0) again", x.begin(0), false);
        C.due("the draft is a copy", children(x, 0) + ", " + children(x, 1) + ", " + children(x, 4), "1 3 4, 2, 5 6");
        C.due("drop()", x.drop(), true);
        C.due("no draft", x.count(4), 0);
        C.due("drop() again", x.drop(), false);
        C.due("begin(0) behind drop()", x.begin(0), true);
        C.due("close() unchanged", x.close(), 1);
        C.due("same", x.same(0, 1), true);
        C.due("its parent", x.parent(1, 0), 0);
        C.due("no draft", x.count(4), 0);
    }

    private static void putting() {
        TreeMerge x = started();
        C.due("put without a draft", x.put(0, 0, 1, 0), -1);
        x.begin(0);
        C.due("put under none such", x.put(7, 0, 1, 0), -1);
        C.due("put under -1", x.put(-1, 0, 1, 0), -1);
        C.due("kind -1", x.put(0, 0, -1, 0), -1);
        C.due("kind 4", x.put(0, 0, 4, 0), -1);
        C.due("place -1", x.put(0, -1, 1, 0), -1);
        C.due("place 4", x.put(0, 4, 1, 0), -1);
        C.due("a large letter", x.put(0, 0, 1, 'A'), -1);
        C.due("a byte above 127", x.put(0, 0, 1, 0xE161L), -1);
        C.due("a negative number", x.put(0, 0, 1, -1), -1);
        C.due("a blank", x.put(0, 0, 1, Calls.word("a b")), -1);
        C.due("nothing came", x.count(2), 7);
        C.due("nothing changed", children(x, 0) + ", " + children(x, 1) + ", " + children(x, 4), "1 3 4, 2, 5 6");
        C.due("place 3", x.put(0, 3, 1, Calls.word("z")), 7);
        C.due("place 0", x.put(0, 0, 1, 0), 8);
        C.due("place 2", x.put(0, 2, 1, Calls.word("abcdefgh")), 9);
        C.due("in order", children(x, 0), "8 1 9 3 4 7");
        C.due("under a set the place doesn't matter", x.put(4, -5, 3, Calls.word("a")), 10);
        C.due("nor here", x.put(4, 99, 1, Calls.word("r")), 11);
        C.due("like another, behind it by its number", x.put(4, 0, 3, Calls.word("x")), 12);
        C.due("none ahead of all", x.put(4, 0, 3, 0), 13);
        C.due("what ends is ahead of what goes on", x.put(4, 0, 3, Calls.word("xa")), 14);
        C.due("digits ahead of letters", x.put(4, 0, 3, Calls.word("9")), 15);
        C.due("the set's order", children(x, 4), "5 11 13 15 10 6 12 14");
        C.due("zeros are left out", x.put(1, 0, 1, 0x6100620000630000L), 16);
        C.due("its word", x.word(12, 16), Calls.word("abc"));
        C.due("under a leaf", x.put(6, 0, 3, 0), 17);
        C.due("it has a child now", x.of(12, 6, 3), 1);
        C.due("how deep", x.of(12, 17, 6), 4);
        C.due("under the new one", x.put(16, 0, 1, 0), 18);
        C.due("no such place under it", x.put(16, 2, 1, 0), -1);
        C.due("close() that doesn't fit", x.close(), -1);
        C.due("it stays", x.count(4), 1);
    }

    private static void limits() {
        TreeMerge x = Calls.with("doc = par* ; par = par* ;");
        Calls.first(x, "doc(" + "par ".repeat(22) + ")");
        x.begin(0);
        C.due("the 24th", x.put(0, 0, 1, 0), 23);
        C.due("a 25th", x.put(0, 0, 1, 0), -1);
        C.due("take", x.take(5), true);
        C.due("again the 24th", x.put(0, 0, 1, 0), 24);
        int n = 24;
        while (n < 149) {
            x.take(n);
            n = x.put(0, 0, 1, 0);
        }
        x.take(149);
        C.due("150 came", x.put(0, 0, 1, 0), -1);
        C.due("what is refused changes nothing", x.of(12, 0, 3), 22);
        C.due("numbers", x.count(2), 150);
        C.due("drop() gives no numbers back", x.drop(), true);
        C.due("numbers", x.count(2), 150);
        x.begin(0);
        C.due("150 came", x.put(0, 0, 1, 0), -1);
        C.due("rename still goes", x.rename(0, 'q'), true);
        C.due("close()", x.close(), 1);
        for (int i = 2; i < 12; i++) {
            x.begin(0);
            C.due("close " + i, x.close(), i);
        }
        x.begin(11);
        C.due("close() with 12", x.close(), -1);
        C.due("the draft stays", x.count(4), 1);
        C.due("drop()", x.drop(), true);
    }

    private static void taking() {
        TreeMerge x = started();
        C.due("take without a draft", x.take(2), false);
        x.begin(0);
        C.due("take one with children", x.take(1), false);
        C.due("take none such", x.take(7), false);
        C.due("take -1", x.take(-1), false);
        C.due("take 2", x.take(2), true);
        C.due("take 2 again", x.take(2), false);
        C.due("take 1 now", x.take(1), true);
        C.due("what is left", children(x, 0), "3 4");
        C.due("take the last", x.take(6), true);
        C.due("take the last again", x.take(6), false);
        C.due("it is no more in it", x.of(12, 6, 0), -1);
        C.due("take 5", x.take(5), true);
        C.due("take 4", x.take(4), true);
        C.due("take 3", x.take(3), true);
        C.due("take the outermost, though alone", x.take(0), false);
        C.due("close()", x.close(), 1);
        C.due("what came", Calls.printed(x, 1), "doc");
        C.due("the old one is as it was", Calls.printed(x, 0), "doc(par{a}(par{b}) par{c} tags(par{q} tag{x}))");
        x.begin(0);
        C.due("put 7", x.put(0, 0, 1, 0), 7);
        C.due("take 7", x.take(7), true);
        C.due("the number is gone", x.put(0, 0, 1, 0), 8);
        C.due("close()", x.close(), 2);
        C.due("the writer of one that was taken again", x.writer(7), 2);
    }

    private static void moving() {
        TreeMerge x = started();
        C.due("move without a draft", x.move(2, 0, 0), false);
        x.begin(0);
        C.due("the outermost", x.move(0, 1, 0), false);
        C.due("under itself", x.move(1, 1, 0), false);
        C.due("under what is under it", x.move(1, 2, 0), false);
        C.due("none such", x.move(9, 0, 0), false);
        C.due("under none such", x.move(2, 9, 0), false);
        C.due("place -1", x.move(2, 0, -1), false);
        C.due("place 4", x.move(2, 0, 4), false);
        C.due("place 3 among its own three", x.move(1, 0, 3), false);
        C.due("place 2", x.move(1, 0, 2), true);
        C.due("the order", children(x, 0), "3 4 1");
        C.due("with what is under it", children(x, 1), "2");
        C.due("place 1", x.move(1, 0, 1), true);
        C.due("the order", children(x, 0), "3 1 4");
        C.due("where it is", x.move(1, 0, 1), true);
        C.due("the order", children(x, 0), "3 1 4");
        C.due("up", x.move(2, 0, 3), true);
        C.due("the order", children(x, 0), "3 1 4 2");
        C.due("under a set, anywhere", x.move(1, 4, 77), true);
        C.due("the set's order", children(x, 4), "1 5 6");
        C.due("within a set", x.move(1, 4, -1), true);
        C.due("the set's order", children(x, 4), "1 5 6");
        C.due("under one in the set", x.move(3, 1, 0), true);
        C.due("how deep", x.of(12, 3, 6), 4);
        C.due("place 1 where none are", x.move(2, 5, 1), false);
        C.due("place 0", x.move(2, 5, 0), true);
        C.due("close()", x.close(), 1);
        C.due("what came", Calls.printed(x, 1), "doc(tags(par{a}(par{c}) par{q}(par{b}) tag{x}))");
        C.due("the numbers", Calls.numbers(x, 1), "0 4 1 3 5 2 6");
    }

    private static void deep() {
        TreeMerge x = Calls.with("doc = par* ; par = par* ;");
        Calls.first(x, "doc(" + "par ".repeat(23) + ")");
        x.begin(0);
        for (int n = 1; n < 23; n++) C.due("move " + n, x.move(n, n + 1, 0), true);
        C.due("drafts may be deeper than texts", x.of(12, 1, 6), 24);
        C.due("the innermost one is under all", x.move(23, 1, 0), false);
        C.due("close()", x.close(), 1);
        C.due("how deep", x.of(1, 1, 6), 24);
        C.due("printed", Calls.printed(x, 1), "doc" + "(par".repeat(23) + ")".repeat(23));
    }

    private static void renaming() {
        TreeMerge x = started();
        C.due("rename without a draft", x.rename(1, 'z'), false);
        x.begin(0);
        C.due("none such", x.rename(7, 'z'), false);
        C.due("-1", x.rename(-1, 'z'), false);
        C.due("a byte that can't be", x.rename(1, '{'), false);
        C.due("a byte that can't be, in front", x.rename(1, 0x0100000000000061L), false);
        C.due("its word", x.rename(1, 'a'), false);
        C.due("its word with zeros", x.rename(1, 'a' << 16), false);
        C.due("none where none is", x.rename(0, 0), false);
        C.due("rename the outermost", x.rename(0, Calls.word("title")), true);
        C.due("rename to none", x.rename(1, 0), true);
        C.due("its word", x.word(12, 1), 0);
        C.due("put", x.put(4, 0, 3, 'm'), 7);
        C.due("the set's order", children(x, 4), "5 7 6");
        C.due("rename in a set", x.rename(6, 'b'), true);
        C.due("the set's new order", children(x, 4), "5 6 7");
        C.due("rename to a like one", x.rename(7, 'b'), true);
        C.due("close() that doesn't fit", x.close(), -1);
        C.due("rename again", x.rename(7, 'c'), true);
        C.due("close()", x.close(), 1);
        C.due("what came", Calls.printed(x, 1), "doc{title}(par(par{b}) par{c} tags(par{q} tag{b} tag{c}))");
    }

    private static void beside() {
        TreeMerge x = started();
        x.begin(0);
        C.due("put", x.put(0, 0, 1, 0), 7);
        C.due("an edition of a text beside the draft", Calls.next(x, 0, "doc(par{n})"), 1);
        C.due("put goes on", x.put(0, 0, 1, 0), 8);
        C.due("the writer while it is open", x.writer(7), -1);
        C.due("close()", x.close(), 2);
        C.due("the writer of both", x.writer(7) + " " + x.writer(8), "2 2");
        C.due("its parent is that on which it was begun", x.parent(2, 0), 0);
        x.begin(2);
        C.due("put", x.put(0, 0, 1, 0), 9);
        x.drop();
        x.begin(2);
        C.due("put behind drop()", x.put(0, 0, 1, 0), 10);
        C.due("close()", x.close(), 3);
        C.due("the writer of a dropped one", x.writer(9), -1);
        C.due("the writer of a kept one", x.writer(10), 3);
        C.due("the dropped one isn't there", x.of(3, 9, 0), -1);
    }

    public static void main(String[] args) {
        beginning();
        putting();
        limits();
        taking();
        moving();
        deep();
        renaming();
        beside();
        C.finish("DraftTest");
    }
}
