/** Parts 2 and 3 of the document and promises 7 to 9: each sentence that names a bound, held at that bound. */
public final class BoundsEditionTest {
    private static final Calls C = new Calls();
    private static final String PARS = "doc = par* ; par = par* ;";
    private static final String SET = "d set d e ; e leaf ;";

    private static String pars(int many) {
        return many == 0 ? "doc" : "doc(" + "par ".repeat(many) + ")";
    }

    private static void breaks(String grammar, String text, int want) {
        TreeMerge x = Calls.with(grammar);
        Calls.say(x, text);
        C.due("breaks() of '" + text + "' in '" + grammar + "'", x.breaks(), want);
        C.due("whether an edition comes of '" + text + "' in '" + grammar + "'", x.first() == 0, want == -1);
    }

    /** The numbers with which the text's nodes are paired, x for none, and then cost, exact and bound. */
    private static void matched(String grammar, String a, String b, String want) {
        TreeMerge x = Calls.with(grammar);
        Calls.first(x, a);
        Calls.say(x, b);
        StringBuilder s = new StringBuilder();
        int nodes = b.split("[a-z]+(?![a-z0-9]*})", -1).length - 1;
        for (int k = 0; k < nodes; k++) {
            int n = x.match(0, 100 + k);
            s.append(n == -1 ? "x" : String.valueOf(n)).append(" ");
        }
        s.append("/ ").append(x.match(0, 0)).append(" ").append(x.match(0, 1)).append(" ").append(x.match(0, 2));
        C.due("'" + b + "' matched to '" + a + "'", s.toString(), want);
    }

    private static void numbersOfNodes() {
        C.by("NODES of EDITIONS have numbers as they come (at most 150).");
        TreeMerge x = Calls.with(PARS);
        for (int i = 0; i < 6; i++) {
            C.due("first() " + i, Calls.first(x, pars(23)), i);
            C.due("its first number", x.node(i, 0), 24 * i);
            C.due("its last number", x.node(i, 23), 24 * i + 23);
        }
        C.due("to 151", Calls.first(x, pars(6)), -1);
        C.due("numbers", x.count(2), 144);
        C.due("to 150", Calls.first(x, pars(5)), 6);
        C.due("numbers", x.count(2), 150);
        C.due("the last one", x.node(6, 5), 149);
        C.due("to 151", Calls.first(x, pars(0)), -1);
        C.due("none is needed", Calls.next(x, 6, "doc{a}(" + "par{b} ".repeat(5) + ")"), 7);
        C.due("one is needed", Calls.next(x, 6, pars(6)), -1);
        x.begin(6);
        C.due("a draft's", x.put(0, 0, 1, 0), -1);
        C.due("numbers", x.count(2), 150);
    }

    private static void fitting() {
        C.by("A NODE FITS: of a leaf KIND it has no children;");
        breaks("d = e? ; e leaf ;", "d(e)", -1);
        breaks("d = e? ; e leaf ;", "d(e(e))", 1);
        breaks("d leaf ;", "d", -1);
        breaks("d leaf ;", "d(d)", 0);
        C.by("of a set KIND all children are of its NAMES, and no two of one KIND have the same WORD (or both none);");
        breaks("d set e f ; e leaf ; f leaf ; g leaf ;", "d", -1);
        breaks("d set e f ; e leaf ; f leaf ; g leaf ;", "d(e f e{a} f{a} e{b})", -1);
        breaks("d set e f ; e leaf ; f leaf ; g leaf ;", "d(e f g)", 0);
        breaks("d set e f ; e leaf ; f leaf ; g leaf ;", "d(d)", 0);
        breaks("d set e f ; e leaf ; f leaf ; g leaf ;", "d(e e)", 0);
        breaks("d set e f ; e leaf ; f leaf ; g leaf ;", "d(f{a} e f{a})", 0);
        breaks("d set e f ; e leaf ; f leaf ; g leaf ;", "d(f{abcdefgh} f{abcdefgi})", -1);
        breaks("d set e f ; e leaf ; f leaf ; g leaf ;", "d(f{abcdefgh} f{abcdefgh})", 0);
        breaks("d set e e ; e leaf ;", "d(e e{a})", -1);
        C.by("else the KINDS of its children, in order, are what its ITEMS say, each once, at most once (?), "
                + "or any number (*).");
        breaks("d = e ; e leaf ;", "d", 0);
        breaks("d = e ; e leaf ;", "d(e)", -1);
        breaks("d = e ; e leaf ;", "d(e e)", 0);
        breaks("d = e? ; e leaf ;", "d", -1);
        breaks("d = e? ; e leaf ;", "d(e)", -1);
        breaks("d = e? ; e leaf ;", "d(e e)", 0);
        breaks("d = e* ; e leaf ;", "d", -1);
        breaks("d = e* ; e leaf ;", "d(e)", -1);
        breaks("d = e* ; e leaf ;", "d(" + "e ".repeat(23) + ")", -1);
        breaks("d = e f ; e leaf ; f leaf ;", "d(f e)", 0);
        breaks("d = e f ; e leaf ; f leaf ;", "d(e f e)", 0);
        breaks("d = e f ; e leaf ; f leaf ;", "d(e)", 0);
        breaks("d = e* e ; e leaf ;", "d", 0);
        breaks("d = e* e ; e leaf ;", "d(e)", -1);
        breaks("d = e? e* f e ; e leaf ; f leaf ;", "d(e e e f e)", -1);
        breaks("d = e? e* f e ; e leaf ; f leaf ;", "d(f e)", -1);
        breaks("d = e? e? ; e leaf ; f leaf ;", "d(e e)", -1);
        breaks("d = e? e? ; e leaf ; f leaf ;", "d(e e e)", 0);
        breaks("d = e e ; e leaf ;", "d(e{a} e{a})", -1);
        breaks("d = " + "e ".repeat(23) + "; e leaf ;", "d(" + "e ".repeat(23) + ")", -1);
        breaks("d = " + "e ".repeat(24) + "; e leaf ;", "d(" + "e ".repeat(23) + ")", 0);
        C.by("A TREE FITS, if all do, and the outermost one is of KIND 0.");
        breaks("d = e ; e leaf ;", "e", 0);
        breaks("d leaf ; e leaf ;", "d", -1);
        breaks("d leaf ; e leaf ;", "e", 0);
        breaks("d = d? ;", "d(d(d(d(d(d(d(d)))))))", -1);
        breaks("d = d? ;", "d(d(d(d(d(d(d(d d)))))))", 6);
    }

    private static void printed(String grammar, String text, String want) {
        TreeMerge x = Calls.with(grammar);
        Calls.first(x, text);
        C.due("'" + text + "' printed", Calls.printed(x, 0), want);
        C.due("its numbers", x.node(0, x.node(0, -1) - 1), x.node(0, -1) - 1);
    }

    private static void orderOfSets() {
        C.by("Children of a set are in the order of KINDS, then of WORDS (none ahead of all; bytes compared, "
                + "what ends ahead of what goes on), then of numbers.");
        printed(SET, "d(e d{z})", "d(d{z} e)");
        printed(SET, "d(d{0} d)", "d(d d{0})");
        printed(SET, "d(d{a} d{9} d{z} d{0})", "d(d{0} d{9} d{a} d{z})");
        printed(SET, "d(d{b} d{ab})", "d(d{ab} d{b})");
        printed(SET, "d(d{a0} d{a})", "d(d{a} d{a0})");
        printed(SET, "d(d{zzzzzzzz} d{zzzzzzz} d{zzzzzzzy})", "d(d{zzzzzzz} d{zzzzzzzy} d{zzzzzzzz})");
        printed(SET, "d(e{a} d{b}(e d) e d{a})", "d(d{a} d{b}(d e) e e{a})");
        printed("d = e* ; e leaf ;", "d(e{b} e{a} e)", "d(e{b} e{a} e)");
        TreeMerge x = Calls.with(SET);
        Calls.first(x, "d(e{a} e{b})");
        x.begin(0);
        x.put(0, 0, 1, 'b');
        x.put(0, 0, 1, 'a');
        C.due("likes by their numbers", x.of(12, 1, 2) + " " + x.of(12, 4, 2) + " " + x.of(12, 2, 2) + " " + x.of(12, 3, 2),
                "0 1 2 3");
        C.by("So are those of a TREE of THE TEXT (without numbers: likes as they stand): that is the order of its NODES.");
        String a = "d(d{u} d{v} d{w} d{x} d{y} d{z})";
        matched(SET, a, "d(d{a}(d{y}) d{a}(d{x}))", "0 1 5 2 4 / 8 0 4");
        matched(SET, a, "d(d{a}(d{x}) d{a}(d{y}))", "0 1 4 2 5 / 8 0 4");
        matched(SET, a, "d(e d{z} d{y})", "0 5 6 x / 10 0 10");
        breaks(SET, "d(d{b}(e(e)) d{a} d)", 4);
    }

    private static void numbersOfEditions() {
        C.by("EDITIONS have numbers as they come, at most 12, with none, one or two parents. All of them FIT.");
        TreeMerge x = Calls.with(PARS);
        C.due("first()", Calls.first(x, "doc(par)"), 0);
        C.due("next()", Calls.next(x, 0, "doc(par{a})"), 1);
        x.begin(0);
        x.rename(0, 'b');
        C.due("close()", x.close(), 2);
        C.due("merge()", x.merge(1, 2), 3);
        C.due("carry()", x.carry(2, 1), 4);
        C.due("back()", x.back(1, 3), 5);
        C.due("first() again", Calls.first(x, "doc"), 6);
        int[][] parents = {{-1, -1}, {0, -1}, {0, -1}, {1, 2}, {1, -1}, {3, -1}, {-1, -1}};
        for (int e = 0; e < 7; e++) {
            C.due("parents of " + e, x.parent(e, 0) + " " + x.parent(e, 1), parents[e][0] + " " + parents[e][1]);
        }
        for (int e = 7; e < 12; e++) C.due("first() of " + e, Calls.first(x, "doc"), e);
        C.due("a 13th by first()", Calls.first(x, "doc"), -1);
        C.due("a 13th by next()", x.next(0), -1);
        x.begin(0);
        C.due("a 13th by close()", x.close(), -1);
        C.due("a 13th by merge()", x.merge(1, 2), -1);
        C.due("a 13th by carry()", x.carry(2, 1), -1);
        C.due("a 13th by back()", x.back(1, 3), -1);
        C.due("editions", x.count(1), 12);
        C.due("the 12th", x.node(11, -1), 1);
        C.due("no 13th", x.node(12, -1), -1);
    }

    private static void costs() {
        C.by("TO MATCH a TREE A (of an EDITION) and a TREE B (of the TEXT) is to pair NODES of one KIND, none twice;");
        matched("d = e* f* ; e leaf ; f leaf ;", "d(e{a})", "d(f{a})", "0 x / 4 1 4");
        matched("d = e* f* ; e leaf ; f leaf ;", "d(e{a})", "d(e{b} e{a} e{a})", "0 x 1 x / 4 1 4");
        matched("d = e* f* ; e leaf ; f leaf ;", "d(e{a} e{a})", "d(e{a})", "0 1 / 2 1 2");
        C.by("the outermost ones (both of KIND 0) are a pair ahead of all.");
        matched(PARS, "doc{a}", "doc{b}", "0 / 1 1 0");
        matched("d set d ;", "d{a}(d{b})", "d{b}(d{a})", "0 1 / 2 1 0");
        matched("d set d ;", "d{a}(d{b}(d{c} d{d} d{e} d{f} d{g}))", "d{b}(d{c} d{d} d{e} d{f} d{g})",
                "0 2 3 4 5 6 / 8 0 2");
        C.by("COST: 2 for each NODE that isn't paired (of A and of B), 1 for each pair with unlike WORDS, "
                + "1 for each pair (but the outermost one) whose parents aren't a pair.");
        matched(PARS, "doc", "doc", "0 / 0 1 0");
        matched(PARS, "doc(par)", "doc", "0 / 2 1 2");
        matched(PARS, "doc", "doc(par)", "0 x / 2 1 2");
        matched(PARS, "doc(par{a})", "doc(par{b})", "0 1 / 1 1 0");
        matched(PARS, "doc(par)", "doc(par{b})", "0 1 / 1 1 0");
        matched(PARS, "doc{a}(par{a})", "doc(par)", "0 1 / 2 1 0");
        matched(PARS, "doc{a}(par par par par par par)", "doc{b}(par par par par par par)", "0 1 2 3 4 5 6 / 1 0 0");
        matched(PARS, "doc{a}(par par par par par)", "doc{b}", "0 / 11 1 10");
        matched(PARS, "doc{a}", "doc{b}(par par par par par)", "0 x x x x x / 11 1 10");
        matched("d = e* f* ; e = f* ; f leaf ;", "d(e f{a})", "d(e(f{a}))", "0 1 2 / 1 1 0");
        matched("d = e* f* ; e = f* ; f leaf ;", "d(e f{a})", "d(e(f{b}))", "0 1 2 / 2 1 0");
        matched("d = e* f* ; e = f* ; f leaf ;", "d(e)", "d(f)", "0 x / 4 1 4");
        matched("d = e* f* ; e = f* ; f leaf ;", "d(e{a} e e e e e)", "d(f f f f f f f)", "0 x x x x x x x / 26 0 26");
    }

    private static void exactly() {
        C.by("EXACT, if both have at most 6 NODES:");
        for (int a = 5; a <= 7; a++) {
            for (int b = 5; b <= 7; b++) {
                TreeMerge x = Calls.with(PARS);
                Calls.first(x, pars(a - 1));
                Calls.say(x, pars(b - 1));
                C.due("exact, " + a + " and " + b, x.match(0, 1), a <= 6 && b <= 6 ? 1 : 0);
                C.due("cost, " + a + " and " + b, x.match(0, 0), 2 * Math.abs(a - b));
            }
        }
        TreeMerge one = Calls.with(PARS);
        Calls.first(one, "doc");
        Calls.say(one, pars(6));
        C.due("exact, 1 and 7", one.match(0, 1), 0);
        // by rounds the first par{a} of the text would be taken, which has another parent
        matched(PARS, "doc(par{a} par{z}(par par))", "doc(par{z}(par{a} par) par{a})", "0 2 3 4 1 / 1 1 0");
        matched(PARS, "doc(par{a} par{z}(par par) par{k} par{l})", "doc(par{z}(par{a} par) par{a})",
                "0 2 1 3 5 / 6 0 4");
        C.by("of all ways the least COST, of like ones the first (NODES of A in their order: with the earliest of B, "
                + "none last).");
        matched(PARS, "doc(par par)", "doc(par par)", "0 1 2 / 0 1 0");
        matched(PARS, "doc(par{a} par{b})", "doc(par{b} par{a})", "0 2 1 / 0 1 0");
        matched(PARS, "doc(par{a} par{b})", "doc(par{c})", "0 1 / 3 1 2");
        matched(PARS, "doc(par{a})", "doc(par{b} par{c})", "0 1 x / 3 1 2");
        matched(PARS, "doc(par{a} par{b})", "doc(par{b})", "0 2 / 2 1 2");
        matched(PARS, "doc(par{b} par{a} par{c})", "doc(par{a} par{b})", "0 2 1 / 2 1 2");
        matched("d = e* f* ; e leaf ; f leaf ;", "d(e e e e e)", "d(f f f f f)", "0 x x x x x / 20 1 20");
        matched(PARS, "doc(par{a}(par{b}))", "doc(par{b})", "0 1 / 3 1 2");
        matched(PARS, "doc(par par par par par)", "doc(par par par par par)", "0 1 2 3 4 5 / 0 1 0");
        matched(PARS, "doc(par{a} par{b} par{c} par{d} par{e})", "doc(par{e} par{d} par{c} par{b} par{a})",
                "0 5 4 3 2 1 / 0 1 0");
    }

    private static void byRounds() {
        C.by("Else by ROUNDS, each over all NODES of A in their order that aren't paired yet, "
                + "with the first NODE of B in its order that isn't:");
        matched(PARS, pars(6), pars(6), "0 1 2 3 4 5 6 / 0 0 0");
        matched(PARS, pars(6), pars(2), "0 1 2 / 8 0 8");
        matched(PARS, pars(2), pars(6), "0 1 2 x x x x / 8 0 8");
        matched(PARS, pars(23), pars(23), "0 1 2 3 4 5 6 7 8 9 10 11 12 13 14 15 16 17 18 19 20 21 22 23 / 0 0 0");
        C.by("(1) whose whole TREES from there on are the same, none of these NODES of A or B being paired yet: "
                + "all of them are paired, one with one;");
        matched(PARS, "doc(par{a}(par{b}(par{c}) par{d}) par par)", "doc(par(par{a}(par{b}(par{c}) par{d})) par par)",
                "0 x 1 2 3 4 5 6 / 3 0 2");
        matched(PARS, "doc(par{b} par{a}(par{b}) par{z}(par{z}(par{z})))", "doc(par{a}(par{b}))", "0 2 1 / 9 0 8");
        matched(PARS, "doc(par{b} par{a}(par{b}) par{z}(par{z}(par{z})))", "doc(par{k} par{a}(par{b}))",
                "0 4 2 1 / 8 0 6");
        matched(PARS, "doc(par{a}(par{b}) par{c} par{d} par{e} par{f})", "doc(par{b} par{a}(par{b}))", "0 3 1 2 / 7 0 6");
        matched(PARS, "doc(par{a}(par{b} par{c}) par par par)", "doc(par{a}(par{c} par{b}) par par par)",
                "0 1 3 2 4 5 6 / 0 0 0");
        C.by("(2) of the same KIND and WORD, whose parents are a pair;");
        matched(PARS, "doc(par{a}(par{k}) par{b}(par{l}) par{c}(par{m}))",
                "doc(par{b}(par{n}) par{a}(par{o}) par{c}(par{p}))", "0 3 4 1 2 5 6 / 3 0 0");
        C.by("(3) of the same KIND, whose parents are a pair;");
        matched(PARS, "doc(par{a}(par{k}) par{b}(par{l}) par{c}(par{m}))",
                "doc(par{e}(par{n}) par{a}(par{o}) par{f}(par{p}))", "0 3 4 1 2 5 6 / 5 0 0");
        C.by("(4) of the same KIND and WORD.");
        matched("doc = a* b* s? ; a = a* b* ; b leaf ; s set a b ;", "doc(a{p}(a{q}(b{x}) b) b{k} b{l} b{m})",
                "doc(a{p} s(a{q}(b{y})))", "0 1 x 2 x / 15 0 10");
        C.by("BOUND is twice the sum, over all KINDS, of how many more of it one has than the other.");
        matched("d = e* f* g* ; e leaf ; f leaf ; g leaf ;", "d(e e e f)", "d(e f f f g)", "0 1 4 x x x / 10 1 10");
        matched("d = e* f* g* ; e leaf ; f leaf ; g leaf ;", "d(g)", "d(e e f f f f)", "0 x x x x x x / 14 0 14");
        TreeMerge x = Calls.with("a = b* c* d* e* f* g* h* i* j* ; b leaf ; c leaf ; d leaf ; e leaf ; f leaf ; g leaf ; "
                + "h leaf ; i leaf ; j leaf ;");
        Calls.first(x, "a(j j)");
        Calls.say(x, "a");
        C.due("the last kind counts", x.match(0, 2), 4);
    }

    private static void numbersKept() {
        C.by("An EDITION that comes from a TEXT keeps the numbers of paired ones; others get numbers in their order.");
        TreeMerge x = Calls.with(PARS);
        Calls.first(x, "doc(par{a} par{b})");
        C.due("next()", Calls.next(x, 0, "doc(par{n} par{b} par{m}(par{k}) par{a})"), 1);
        C.due("its numbers", Calls.numbers(x, 1), "0 3 2 4 5 1");
        C.due("next() of the first again", Calls.next(x, 0, "doc(par{z} par{b} par{a})"), 2);
        C.due("its numbers", Calls.numbers(x, 2), "0 6 2 1");
        C.due("next() of none paired but the outermost", Calls.next(x, 0, "doc"), 3);
        C.due("its numbers", Calls.numbers(x, 3), "0");
    }

    private static void firsts() {
        C.by("An EDITION without parents comes of the TEXT, which is empty then: its number;");
        TreeMerge x = Calls.with(PARS);
        C.due("first()", Calls.first(x, "doc(par)"), 0);
        C.due("the text", x.count(3), 0);
        C.due("no parents", x.parent(0, 0) + x.parent(0, 1), -2);
        C.due("a second", Calls.first(x, "doc(par)"), 1);
        C.due("not from the first", x.from(1, 0), false);
        C.by("NONE with a FAULT, without a GRAMMAR, if it doesn't FIT, there would be more than 150 NODES, or 12 came.");
        C.due("of the empty text", x.first(), -1);
        C.due("with a fault", Calls.first(x, "doc("), -1);
        C.due("the text", x.count(3), 4);
        C.due("another kind outermost", Calls.first(x, "par"), -1);
        TreeMerge w = new TreeMerge();
        C.due("without a grammar", Calls.first(w, "doc"), -1);
        C.due("without a grammar, empty", Calls.first(w, ""), -1);
        TreeMerge y = Calls.with("doc = par par ; par leaf ;");
        C.due("too few", Calls.first(y, "doc(par)"), -1);
        C.due("just so many", Calls.first(y, "doc(par par)"), 0);
        C.due("too many", Calls.first(y, "doc(par par par)"), -1);
        C.due("the text", y.count(3), 16);
        C.due("numbers", y.count(2), 3);
        for (int over = 0; over <= 1; over++) {
            TreeMerge z = Calls.with(PARS);
            for (int i = 0; i < 6; i++) Calls.first(z, pars(23));
            C.due("to " + (150 + over), Calls.first(z, pars(5 + over)), over == 0 ? 6 : -1);
            C.due("numbers", z.count(2), over == 0 ? 150 : 144);
            C.due("the text", z.count(3), over == 0 ? 0 : 29);
        }
        TreeMerge e = Calls.with(PARS);
        for (int i = 0; i < 12; i++) C.due("first()", Calls.first(e, "doc"), i);
        C.due("12 came", Calls.first(e, "doc"), -1);
        C.due("the text", e.count(3), 3);
        C.due("numbers", e.count(2), 12);
    }

    private static void matches() {
        C.by("The TEXT matched to an EDITION: 0 COST, 1 whether EXACT, 2 BOUND, 100 and k: the NODE's number with which "
                + "the k-th NODE of the TEXT is paired (NONE: none).");
        TreeMerge x = Calls.with(PARS);
        Calls.first(x, "doc");
        Calls.first(x, "doc(par{a})");
        Calls.say(x, "doc(par{b} par{a})");
        C.due("the outermost", x.match(1, 100), 1);
        C.due("none", x.match(1, 101), -1);
        C.due("the last", x.match(1, 102), 2);
        C.due("behind the last", x.match(1, 103), -1);
        Calls.say(x, pars(23));
        C.due("the 24th", x.match(1, 123), -1);
        C.due("the second", x.match(1, 101), 2);
        C.by("NONE for others, with a FAULT, if the outermost isn't of KIND 0, or if there is no such EDITION.");
        for (int what : new int[] {-1, 3, 4, 50, 99, 124, 139, 140, 141, 250, Integer.MIN_VALUE, Integer.MAX_VALUE}) {
            C.due("match(1, " + what + ")", x.match(1, what), -1);
        }
        C.due("cost", x.match(1, 0), 45);
        C.due("exact", x.match(1, 1), 0);
        C.due("bound", x.match(1, 2), 44);
        for (int edition : new int[] {-1, 2, 11, 12, 13, Integer.MIN_VALUE, Integer.MAX_VALUE}) {
            for (int what : new int[] {0, 1, 2, 100}) C.due("match(" + edition + ")", x.match(edition, what), -1);
        }
        for (String wrong : new String[] {"", "doc(", "doc doc", "par", "par(par)"}) {
            Calls.say(x, wrong);
            for (int what : new int[] {0, 1, 2, 100}) C.due("match of '" + wrong + "'", x.match(1, what), -1);
        }
        TreeMerge y = Calls.with("doc = par par ; par leaf ;");
        Calls.first(y, "doc(par par)");
        Calls.say(y, "doc(par)");
        C.due("what doesn't fit is matched", y.match(0, 0), 2);
        C.due("and stays", y.count(3), 8);
    }

    private static void nexts() {
        C.by("An EDITION with that parent comes of the TEXT, matched to it: as first(), "
                + "and NONE if there is no such EDITION.");
        TreeMerge x = Calls.with("doc = par par* ; par = par* ;");
        C.due("without editions", Calls.next(x, 0, "doc(par)"), -1);
        C.due("first()", x.first(), 0);
        for (int edition : new int[] {-1, 1, 11, 12, Integer.MIN_VALUE, Integer.MAX_VALUE}) {
            C.due("next(" + edition + ")", Calls.next(x, edition, "doc(par)"), -1);
        }
        C.due("the text stays", x.count(3), 8);
        C.due("next(0)", x.next(0), 1);
        C.due("the text is empty", x.count(3), 0);
        C.due("its parent", x.parent(1, 0), 0);
        C.due("of the empty text", x.next(0), -1);
        for (String wrong : new String[] {"doc(", "doc", "par", "par(par)"}) {
            C.due("next() of '" + wrong + "'", Calls.next(x, 0, wrong), -1);
            C.due("the text stays", x.count(3), wrong.length());
        }
        C.due("editions", x.count(1), 2);
        C.due("numbers", x.count(2), 2);
        for (int i = 0; i < 6; i++) Calls.first(x, pars(23));
        C.due("146 came", x.count(2), 146);
        C.due("to 151", Calls.next(x, 0, pars(6)), -1);
        C.due("the text stays", x.count(3), 29);
        C.due("to 150", Calls.next(x, 0, pars(5)), 8);
        C.due("150 came", x.count(2), 150);
        for (int i = 9; i < 12; i++) C.due("next()", Calls.next(x, 8, pars(5)), i);
        C.due("12 came", Calls.next(x, 8, pars(5)), -1);
        C.due("the text stays", x.count(3), 25);
    }

    public static void main(String[] args) {
        numbersOfNodes();
        fitting();
        orderOfSets();
        numbersOfEditions();
        costs();
        exactly();
        byRounds();
        numbersKept();
        firsts();
        matches();
        nexts();
        C.finish("BoundsEditionTest");
    }
}
