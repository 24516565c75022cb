/** Part 1 of the document and promises 1 to 6: each sentence that names a bound, held at that bound. */
public final class BoundsTextTest {
    private static final Calls C = new Calls();
    private static final String PARS = "doc = par* ; par = par* ; tag leaf ;";

    private static void grammar(String text, int fault) {
        TreeMerge x = new TreeMerge();
        Calls.say(x, text);
        C.due("fault(false) of '" + text + "'", x.fault(false), fault);
        C.due("whether a grammar comes of '" + text + "'", x.grammar() > 0, fault == -1);
    }

    private static void tree(String text, int fault) {
        TreeMerge x = Calls.with(PARS);
        Calls.say(x, text);
        C.due("fault(true) of '" + text + "'", x.fault(true), fault);
        C.due("whether an edition comes of '" + text + "'", x.first() == 0, fault == -1);
    }

    private static void breaks(String grammar, String text, int want) {
        TreeMerge x = Calls.with(grammar);
        Calls.say(x, text);
        C.due("breaks() of '" + text + "' in '" + grammar + "'", x.breaks(), want);
        C.due("whether an edition comes of '" + text + "' in '" + grammar + "'", x.first() == 0, want == -1);
    }

    private static boolean isLetter(int b) {
        return b >= 'a' && b <= 'z';
    }

    private static boolean isDigit(int b) {
        return b >= '0' && b <= '9';
    }

    private static void bytesOfTheText() {
        C.by("THE TEXT has at most 500 bytes.");
        TreeMerge x = new TreeMerge();
        for (int i = 1; i <= 25; i++) C.due("feed " + i, x.feed(0x20202020, 0x20202020, 0x20202020, 0x20202020, 0x20202020), 20 * i);
        C.due("feed 26", x.feed(0, 0, 0, 0, 0), -1);
        C.due("bytes", x.count(3), 500);
        C.due("all of them are read", x.fault(false), 500);
        x.end(480);
        x.feed(0x20202020, 0x20202020, 0x20202020, 0x20202020, 0x20202021);
        C.due("the 500th byte is read", x.fault(false), 499);
    }

    private static void names() {
        C.by("names (small letters, as long as can be)");
        for (int b = 0; b < 256; b++) {
            boolean gap = b == ' ' || b == '\n';
            grammar((char) b + " leaf;", isLetter(b) ? -1 : gap ? 2 : 0);
            grammar("a" + (char) b + " leaf;", isLetter(b) || gap ? -1 : b == '=' ? 3 : 1);
        }
        grammar("aleaf;", 5);
        grammar("aleaf leaf;", -1);
        grammar("a leafa;", 2);
        grammar("a = aa ; aa leaf ;", -1);
        grammar("a = a a ; aa leaf ;", -1);
        tree("doc(parpar)", 4);
        tree("doc(par par)", -1);
        String most = "n".repeat(494);
        grammar(most + " leaf;", -1);
        grammar(most + "nnnnnn", 500);
    }

    private static void wordTokens() {
        C.by("words in { } (one TOKEN: {, 1 to 8 small letters or digits, } with nothing between;");
        tree("doc{}", 3);
        tree("doc{a}", -1);
        tree("doc{0}", -1);
        tree("doc{abcdefgh}", -1);
        tree("doc{01234567}", -1);
        tree("doc{abcdefghi}", 3);
        tree("doc{012345678}", 3);
        for (int b = 0; b < 256; b++) {
            tree("doc{" + (char) b + "}", isLetter(b) || isDigit(b) ? -1 : 3);
            tree("doc{a" + (char) b + "c}", isLetter(b) || isDigit(b) ? -1 : b == '}' ? 6 : 3);
        }
        tree("doc{ a}", 3);
        tree("doc{a }", 3);
        tree("doc{a b}", 3);
        tree("doc{a\n}", 3);
        tree("doc {a} (par {b} par{c})", -1);
    }

    private static void bracesWithoutWords() {
        C.by("a { with which none begins is no TOKEN,");
        tree("doc{)", 3);
        tree("doc {{a}", 4);
        tree("doc(par{(par))", 7);
        tree("{}", 0);
        tree("doc(par(par){})", 12);
        grammar("a = b { ; b leaf ;", 6);
        grammar("a = b {} ; b leaf ;", 6);
        grammar("{} a leaf;", 0);
        C.by("but THE TEXT ends too early, if it ends in one where a word can stand)");
        tree("doc{", 4);
        tree("doc {", 5);
        tree("doc{a", 5);
        tree("doc{abcdefgh", 12);
        tree("doc{abcdefghi", 3);
        tree("doc(par{a", 9);
        tree("doc{a ", 3);
        tree("doc{ ", 3);
        tree("doc{A", 3);
        tree("{a", 0);
        tree("doc({a", 4);
        tree("doc{a}{a", 6);
        tree("doc(par){a", 8);
        tree("doc(par){", 8);
        grammar("a{", 1);
        grammar("a = a{a", 5);
        grammar("{a", 0);
        tree(" ".repeat(496) + "doc{", 500);
        tree(" ".repeat(497) + "doc", -1);
    }

    private static void signsAndGaps() {
        C.by("and = ; * ? ( ) with any blanks (32) and line ends (10) between.");
        for (int b = 0; b < 256; b++) {
            boolean gap = b == ' ' || b == '\n';
            grammar("a" + (char) b + "leaf;", gap ? -1 : isLetter(b) ? 6 : b == '=' ? 2 : 1);
            tree("doc" + (char) b, gap ? -1 : isLetter(b) ? 0 : b == '(' || b == '{' ? 4 : 3);
        }
        grammar("a=b*c?d;b leaf;c leaf;d leaf;", -1);
        grammar("\n a\n\n=  b \n*\nc ? d ;b\nleaf\n;c leaf ; d leaf;\n ", -1);
        tree("doc(par{a}par(par))", -1);
        tree(" \ndoc\n(\npar {a}\npar\n( par ) ) \n", -1);
    }

    private static String rules(int many) {
        StringBuilder s = new StringBuilder();
        for (int i = 0; i < many; i++) s.append((char) ('a' + i)).append(" leaf;");
        return s.toString();
    }

    private static void grammars() {
        C.by("A GRAMMAR is 1 to 10 RULES: NAME leaf ;");
        grammar("", 0);
        grammar(" ", 1);
        grammar(rules(1), -1);
        grammar(rules(10), -1);
        grammar(rules(11), 70);
        grammar("a leaf", 6);
        grammar("a leaf;;", 7);
        grammar("a leaf a;", 7);
        C.by("or NAME set NAME and any number of further NAMES ;");
        grammar("a set;", 5);
        grammar("a set a;", -1);
        grammar("a set a a;", -1);
        grammar("a set" + " a".repeat(247) + ";", -1);
        grammar("a set" + " a".repeat(247), 499);
        grammar("a set a?;", 7);
        grammar("a set a*;", 7);
        C.by("or NAME = ITEM and any number of further ITEMS ;");
        grammar("a=;", 2);
        grammar("a=a;", -1);
        grammar("a=" + "a ".repeat(248) + "a;", -1);
        grammar("a=" + "a?".repeat(248) + ";", -1);
        C.by("where an ITEM is NAME, NAME ? or NAME *.");
        grammar("a=a?;", -1);
        grammar("a=a*;", -1);
        grammar("a=a??;", 4);
        grammar("a=a**;", 4);
        grammar("a=a?*;", 4);
        grammar("a=?;", 2);
        grammar("a=a(a);", 3);
        C.by("leaf and set are no NAMES.");
        grammar("leaf leaf;", 0);
        grammar("set leaf;", 0);
        grammar("a=leaf;", 2);
        grammar("a=a set;", 4);
        grammar("a set leaf;", 6);
        grammar("a set a set;", 8);
        grammar("lea leaf;", -1);
        grammar("leafs leaf;", -1);
        grammar("se leaf;", -1);
        grammar("sets leaf;", -1);
        tree("leaf", 0);
        tree("doc(set)", 4);
        C.by("Each RULE is for a KIND (numbers as they come); none has two.");
        grammar("a leaf; a leaf;", 8);
        grammar("a leaf; b leaf; b = b;", 16);
        TreeMerge x = Calls.with(rules(10));
        for (int kind = 0; kind < 10; kind++) {
            Calls.say(x, String.valueOf((char) ('a' + kind)));
            C.due("only the first is of kind 0: " + kind, x.breaks(), kind == 0 ? -1 : 0);
        }
        Calls.first(x, "a");
        x.begin(0);
        for (int kind = 0; kind < 10; kind++) C.due("kind " + kind, x.of(12, x.put(0, 0, kind, 0), 0), kind);
        C.due("kind 10", x.put(0, 0, 10, 0), -1);
    }

    private static void trees() {
        C.by("then a word in { } or none, then ( one or more NODES ) or nothing.");
        tree("doc", -1);
        tree("doc{a}", -1);
        tree("doc{a}{b}", 6);
        tree("doc(par){b}", 8);
        tree("doc()", 4);
        tree("doc(par)", -1);
        tree("doc(par)(par)", 8);
        tree("doc{a}(par)", -1);
        C.by("At most 24 NODES, at most 8 deep (the outermost is 1).");
        tree("doc(" + "par ".repeat(23) + ")", -1);
        tree("doc(" + "par ".repeat(24) + ")", 96);
        tree("doc" + "(par".repeat(7) + ")".repeat(7), -1);
        tree("doc" + "(par".repeat(8) + ")".repeat(8), 31);
        tree("doc" + "(par".repeat(7) + " par".repeat(16) + ")".repeat(7), -1);
        C.by("NODES of a TREE are told in their order (each ahead of its children).");
        TreeMerge x = Calls.with(PARS);
        Calls.first(x, "doc(par{a}(par{b}(par{c})) par{d})");
        for (int k = 0; k < 5; k++) C.due("node " + k, x.node(0, k), k);
        C.due("the words", (char) x.word(0, 1) + "" + (char) x.word(0, 2) + (char) x.word(0, 3) + (char) x.word(0, 4), "abcd");
    }

    private static void faultsOfGrammars() {
        C.by("is the place (from 0 on) of the first byte of the first TOKEN that can't stand there");
        grammar("; a leaf ;", 0);
        grammar("a leaf ; ; ;", 9);
        grammar("a = bcd efg = ; bcd leaf ;", 12);
        tree("doc par par", 4);
        tree("doc(par = par)", 8);
        C.by("(also: a NAME that has a RULE, an eleventh RULE;");
        grammar("ab leaf ; ab leaf ;", 10);
        grammar("ab = ab ; ab", 10);
        grammar(rules(10) + " kk leaf ;", 71);
        grammar(rules(10) + " a leaf ;", 71);
        grammar(rules(10) + " ", -1);
        C.by("or of a byte that begins no TOKEN, if that is ahead;");
        grammar("a # ;", 2);
        grammar("a ; #", 2);
        grammar("a leaf ; #", 9);
        grammar("a leaf # a leaf ;", 7);
        tree("doc( # )", 5);
        tree("doc( ) #", 5);
        tree("doc(par) #", 9);
        C.by("the length, if it ends too early.");
        for (String cut : new String[] {"", "a", "a set", "a set a", "a =", "a = a", "a = a*", "a leaf", "a leaf ; b"}) {
            grammar(cut, cut.length());
            grammar(cut + " \n", cut.length() + 2);
        }
        for (String cut : new String[] {"", "doc(", "doc{", "doc(par", "doc(par{a}", "doc(par(par)"}) {
            tree(cut, cut.length());
        }
        tree("doc(par  ", 9);
        C.by("A GRAMMAR without such has its FAULT at the first NAME behind leaf, set or = for which there is no RULE.");
        grammar("a = b ;", 4);
        grammar("a = a b? a c ;", 6);
        grammar("a set a b ;", 8);
        grammar("a = b ; b = c ; c = d ;", 20);
        grammar("a = b ; b leaf ; a", 17);
        grammar("a = b ; c", 9);
        grammar("a = b ; c leaf # ;", 15);
        grammar("a = b ; b leaf ;", -1);
        grammar("a = bb ; b leaf ; bbb leaf ;", 4);
        C.by("NONE without.");
        grammar("a = a ;", -1);
        tree("doc", -1);
    }

    private static void faultsOfTrees() {
        C.by("in a TREE a NAME that is of no KIND, the 25th NODE, what opens a ninth depth, what comes behind the TREE)");
        tree("do", 0);
        tree("docs", 0);
        tree("doc(par(pars))", 8);
        tree("doc(" + "par ".repeat(22) + "par(par))", 96);
        tree("doc(" + "par ".repeat(22) + "par(", 96);
        tree("doc(" + "par ".repeat(22) + "par)", -1);
        tree("doc" + "(par".repeat(7) + "{a} (par", 35);
        tree("doc(par" + "(par".repeat(6) + ")".repeat(6) + " par" + "(par".repeat(6) + "(", 65);
        tree("doc doc", 4);
        tree("doc(par) par", 9);
        tree("doc(par))", 8);
        tree("doc(par) ;", 9);
        tree("doc(par) \n ", -1);
        TreeMerge x = new TreeMerge();
        Calls.say(x, " doc");
        C.due("without a grammar no name is of a kind", x.fault(true), 1);
        Calls.say(x, "a = b ;");
        x.grammar();
        C.due("nor with a text of which none came", x.fault(true), 0);
    }

    private static void newObject() {
        C.by("No GRAMMAR, no EDITIONS.");
        TreeMerge x = new TreeMerge();
        for (int what = 0; what <= 5; what++) C.due("count(" + what + ")", x.count(what), 0);
        for (int edition = -1; edition <= 12; edition++) {
            C.due("node(" + edition + ", -1)", x.node(edition, -1), -1);
            C.due("name(" + edition + ")", x.name(edition), -1);
            C.due("begin(" + edition + ")", x.begin(edition), false);
            C.due("from(" + edition + ")", x.from(edition, edition), false);
            C.due("of(" + edition + ", 0, 0)", x.of(edition, 0, 0), -1);
        }
        C.due("writer(0)", x.writer(0), -1);
        C.due("quarrel(-1)", x.quarrel(-1), 0);
        C.due("quarrel(0)", x.quarrel(0), -1);
        C.due("unsettle()", x.unsettle(), 0);
        C.due("fault(false)", x.fault(false), 0);
        C.due("fault(true)", x.fault(true), 0);
        C.due("breaks()", x.breaks(), -1);
    }

    private static void feeding() {
        C.by("Bytes come behind those of the TEXT, of each number the highest first (20 of them): how many there are;");
        TreeMerge x = new TreeMerge();
        C.due("of 0", x.feed(0x61616161, 0x62626262, 0x63636363, 0x64646464, 0x65656520), 20);
        C.due("of 20", x.feed(0x6c656166, 0x3b202020, 0x20202020, 0x20202020, 0x20202020), 40);
        C.due("a name of 19 bytes, and leaf ;", x.fault(false), -1);
        x.end(24);
        C.due("leaf without ;", x.fault(false), 24);
        x.end(23);
        C.due("lea", x.fault(false), 20);
        x.end(1);
        C.due("of 1", x.feed(0x20202020, 0x20202020, 0x20202020, 0x20202020, 0xffffffff), 21);
        C.due("a byte of 255 at 17", x.fault(false), 17);
        TreeMerge y = new TreeMerge();
        y.feed(0x80000000, -1, 0, 0, 0);
        C.due("the highest byte of the first number", y.fault(false), 0);
        C.by("NONE if there would be more than 500.");
        for (int at : new int[] {479, 480, 481, 499, 500}) {
            TreeMerge z = new TreeMerge();
            Calls.say(z, " ".repeat(at));
            C.due("feed() behind " + at, z.feed(0, 0, 0, 0, 0), at <= 480 ? at + 20 : -1);
            C.due("bytes", z.count(3), at <= 480 ? at + 20 : at);
            C.due("what stands there", z.fault(false), at);
        }
    }

    private static void ending() {
        C.by("The TEXT has its first n bytes alone: true; false if it has not so many, or n is below 0.");
        TreeMerge x = new TreeMerge();
        C.due("end(0) of none", x.end(0), true);
        C.due("end(1) of none", x.end(1), false);
        Calls.say(x, "a leaf;b leaf;");
        C.due("end(15) of 14", x.end(15), false);
        C.due("end(-1)", x.end(-1), false);
        C.due("end(least)", x.end(Integer.MIN_VALUE), false);
        C.due("end(most)", x.end(Integer.MAX_VALUE), false);
        C.due("bytes", x.count(3), 14);
        C.due("end(14) of 14", x.end(14), true);
        C.due("the whole", x.fault(false), -1);
        C.due("end(13)", x.end(13), true);
        C.due("without its last byte", x.fault(false), 13);
        C.due("end(14) of 13", x.end(14), false);
        C.due("end(7)", x.end(7), true);
        C.due("the first rule alone", x.grammar(), 1);
        C.due("end(1) behind it", x.end(1), false);
        C.due("end(0) behind it", x.end(0), true);
    }

    private static void faults() {
        C.by("The FAULT as a GRAMMAR, or as a TREE.");
        TreeMerge x = Calls.with(PARS);
        Calls.say(x, "doc leaf;");
        C.due("as a grammar", x.fault(false), -1);
        C.due("as a tree", x.fault(true), 4);
        Calls.say(x, "doc(par)");
        C.due("as a grammar", x.fault(false), 3);
        C.due("as a tree", x.fault(true), -1);
        C.due("bytes", x.count(3), 8);
    }

    private static void grammarOnce() {
        C.by("THE GRAMMAR comes of the TEXT, which is empty then (once): how many KINDS; "
                + "NONE with a FAULT (it stays), or if there is one.");
        TreeMerge x = new TreeMerge();
        C.due("of nothing", x.grammar(), -1);
        Calls.say(x, "a = b ;");
        C.due("with a fault", x.grammar(), -1);
        C.due("the text stays", x.count(3), 7);
        C.due("as it was", x.fault(false), 4);
        C.due("no kinds", x.count(0), 0);
        Calls.say(x, rules(10));
        C.due("ten", x.grammar(), 10);
        C.due("kinds", x.count(0), 10);
        C.due("the text is empty", x.count(3), 0);
        Calls.say(x, "x leaf;");
        C.due("once", x.grammar(), -1);
        C.due("the text stays", x.count(3), 7);
        C.due("kinds", x.count(0), 10);
        C.due("x is of no kind", x.fault(true), 0);
        C.due("a is still kind 0", Calls.first(x, "a"), 0);
        TreeMerge y = Calls.with("a leaf;");
        C.due("one", y.count(0), 1);
        Calls.say(y, "b leaf;");
        C.due("once, with one", y.grammar(), -1);
    }

    /** What an earlier text said isn't kept. */
    private static void readAgain() {
        C.by("THE GRAMMAR comes of the TEXT");
        TreeMerge x = new TreeMerge();
        Calls.say(x, "a = b* c* ; b leaf ; c leaf ;");
        C.due("many items", x.fault(false), -1);
        Calls.say(x, "a leaf ;");
        C.due("none", x.fault(false), -1);
        Calls.say(x, "a = b c ; b leaf ; c leaf ;");
        C.due("grammar()", x.grammar(), 3);
        Calls.say(x, "a");
        C.due("without the stars of the earlier text", x.breaks(), 0);
        C.due("and the items are there", Calls.first(x, "a(b c)"), 0);
        Calls.say(x, "k = l* ; l = k* ;");
        C.due("another text that would be one", x.fault(false), -1);
        Calls.say(x, "a(b)");
        C.due("the first stays", x.breaks(), 0);
    }

    private static void breaking() {
        String g = "doc = one maybe? many* ; one leaf ; maybe set one many ; many = many* ;";
        C.by("The first NODE (by its place in the order) of the TEXT, read as a TREE, that doesn't FIT "
                + "(0, if the outermost is of another KIND);");
        breaks(g, "one", 0);
        breaks(g, "many", 0);
        breaks(g, "doc", 0);
        breaks(g, "doc(one)", -1);
        breaks(g, "doc(one one)", 0);
        breaks(g, "doc(one(one) maybe(doc))", 1);
        breaks(g, "doc(one many many(one))", 3);
        breaks(g, "doc(one maybe(many{b}(one) many{a} one))", 5);
        breaks(g, "doc(one" + " many".repeat(20) + " many(one))", 22);
        breaks(g, "doc(one" + " many".repeat(22) + ")", -1);
        C.by("NONE if all do, or with a FAULT.");
        TreeMerge x = Calls.with(g);
        C.due("of nothing", x.breaks(), -1);
        Calls.say(x, "doc(");
        C.due("with a fault", x.breaks(), -1);
        Calls.say(x, "doc )");
        C.due("with a fault behind what doesn't fit", x.breaks(), -1);
        Calls.say(x, "doc");
        C.due("without", x.breaks(), 0);
    }

    public static void main(String[] args) {
        bytesOfTheText();
        names();
        wordTokens();
        bracesWithoutWords();
        signsAndGaps();
        grammars();
        trees();
        faultsOfGrammars();
        faultsOfTrees();
        newObject();
        feeding();
        ending();
        faults();
        grammarOnce();
        readAgain();
        breaking();
        C.finish("BoundsTextTest");
    }
}
