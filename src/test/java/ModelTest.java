import java.util.ArrayList;
import java.util.List;
import java.util.Random;
import java.util.TreeMap;

/**
 * Random runs of calls on the program and on Model, which must answer alike. The seeds are fixed, so each run
 * is the same every time; a first argument that is a number asks for so many runs instead.
 */
public final class ModelTest {
    static final String[] GRAMMARS = {
        "doc = head? body tags ; head leaf ; body = par* ; par leaf ; tags set tag ; tag leaf ;",
        "doc = par* ; par = par* ;",
        "doc set a b ; a set a b ; b = a? b* ;",
        "doc = a b? a* c* ; a leaf ; b set c d ; c = c* d* c? ; d leaf ;",
        "doc set doc x ; x = doc* x* ;",
        "a = b* c* b* ; b = c* ; c = b* ;",
        "doc = s ; s set p q ; p = q* p* ; q set p q ;",
        "doc = x* ; x leaf ;",
        "d = k l m? ; k set k l ; l = k* l* ; m = l* k? l* ;",
        "d = a* ; a = b? a* b? ; b = a* ;",
        "d = a* s* a* ; a = a* s? ; s set a s ;",
    };
    static final String[] WORDS = {"", "", "a", "b", "c", "ab", "a1", "abcdefgh"};
    static final TreeMap<String, Integer> STATS = new TreeMap<>();

    final Random r;
    final Both x = new Both();

    ModelTest(long seed) {
        r = new Random(seed);
    }

    static void stat(String what) {
        STATS.merge(what, 1, Integer::sum);
    }

    int edition() {
        int n = x.m.editions.size();
        if (r.nextInt(25) == 0) return r.nextInt(16) - 2;
        return n == 0 ? 0 : r.nextInt(3) == 0 ? n - 1 : r.nextInt(n);
    }

    String pick(String[] from) {
        return from[r.nextInt(from.length)];
    }

    /** A tree that mostly fits. */
    String tree(int kind, int depth, int[] left) {
        Model.Rule rule = x.m.grammar.get(kind);
        left[0]--;
        StringBuilder s = new StringBuilder(rule.name);
        String w = pick(WORDS);
        if (!w.isEmpty()) s.append("{" + w + "}");
        List<String> children = new ArrayList<>();
        for (int i = 0; i < rule.items.size() && depth < 8; i++) {
            int k = x.m.kindOf(rule.items.get(i));
            int times = rule.shape.equals("set") || rule.marks.get(i).equals("*") ? r.nextInt(4)
                    : rule.marks.get(i).equals("?") ? r.nextInt(2) : 1;
            for (int t = 0; t < times && left[0] > 0; t++) children.add(tree(k, depth + 1, left));
        }
        if (!children.isEmpty()) s.append("(" + String.join(r.nextInt(9) == 0 ? " \n" : " ", children) + ")");
        return s.toString();
    }

    String anyTree() {
        return tree(r.nextInt(20) == 0 ? r.nextInt(x.m.grammar.size()) : 0, 1, new int[] {1 + r.nextInt(26)});
    }

    /** Another word here and there, a node left out or twice. */
    String edited(String s) {
        StringBuilder b = new StringBuilder(s);
        for (int times = 1 + r.nextInt(3); times > 0; times--) {
            int at = r.nextInt(b.length());
            switch (r.nextInt(4)) {
                case 0: {
                    int open = b.indexOf("{", at);
                    if (open >= 0) b.replace(open, b.indexOf("}", open) + 1, pick(new String[] {"", "{a}", "{zz}"}));
                    break;
                }
                case 1: {
                    int blank = b.indexOf(" ", at);
                    int end = blank < 0 ? -1 : b.indexOf(" ", blank + 1);
                    if (end >= 0) b.delete(blank, end);
                    break;
                }
                case 2: {
                    int blank = b.indexOf(" ", at);
                    int end = blank < 0 ? -1 : b.indexOf(" ", blank + 1);
                    if (end >= 0) b.insert(blank, b.substring(blank, end));
                    break;
                }
                default: {
                    int blank = b.indexOf(" ", at);
                    if (blank >= 0) b.insert(blank, " " + x.m.grammar.get(r.nextInt(x.m.grammar.size())).name);
                }
            }
        }
        return b.length() > 500 ? b.substring(0, 500) : b.toString();
    }

    String broken(String s) {
        StringBuilder b = new StringBuilder(s);
        String signs = "az {}(); =*?\n09Z~{{}}((";
        for (int times = 1 + r.nextInt(2); times > 0 && b.length() > 0; times--) {
            int at = r.nextInt(b.length());
            switch (r.nextInt(4)) {
                case 0: b.deleteCharAt(at); break;
                case 1: b.insert(at, signs.charAt(r.nextInt(signs.length()))); break;
                case 2: b.setCharAt(at, signs.charAt(r.nextInt(signs.length()))); break;
                default: b.setLength(at);
            }
        }
        return b.length() > 500 ? b.substring(0, 500) : b.toString();
    }

    void sayTree() {
        int n = x.m.editions.size();
        String s = n > 0 && r.nextInt(3) > 0 ? x.m.printed(x.m.editions.get(r.nextInt(n)).root) : anyTree();
        if (r.nextInt(2) == 0) s = edited(s);
        if (r.nextInt(8) == 0) s = broken(s);
        if (s.length() > 500) s = s.substring(0, 500);
        x.say(s);
        if (r.nextInt(3) == 0) x.fault(r.nextInt(4) > 0);
        if (x.breaks() >= 0) stat("text that breaks");
    }

    int number() {
        int n = x.m.writers.size();
        return r.nextInt(30) == 0 ? r.nextInt(160) - 3 : n == 0 ? 0 : r.nextInt(n);
    }

    /** Mostly one that is in the draft. */
    int draftNumber() {
        if (x.m.draft == null || r.nextInt(20) == 0) return number();
        List<Model.Node> all = x.m.draft.all();
        return all.get(r.nextInt(all.size())).id;
    }

    long word() {
        if (r.nextInt(30) == 0) return r.nextLong();
        return r.nextInt(10) == 0 ? Calls.word(pick(WORDS)) << 8 * r.nextInt(3) : Calls.word(pick(WORDS));
    }

    int place() {
        return r.nextInt(20) == 0 ? r.nextInt(30) - 4 : r.nextInt(3);
    }

    void changeDraft() {
        switch (r.nextInt(7)) {
            case 0:
            case 1: x.put(draftNumber(), place(), r.nextInt(x.m.grammar.size() + 1) - r.nextInt(2), word()); break;
            case 2: x.take(draftNumber()); break;
            case 3:
            case 4: if (x.move(draftNumber(), draftNumber(), place())) stat("moved"); break;
            default: x.rename(draftNumber(), word());
        }
        if (r.nextInt(5) == 0 && x.m.draft != null) {
            for (int what = 0; what <= 6; what++) x.of(12, draftNumber(), what);
            x.word(12, draftNumber());
        }
    }

    /** Whole draft: begun, changed some times, and closed if that goes. */
    void draft() {
        x.begin(edition());
        for (int times = 1 + r.nextInt(4); times > 0; times--) changeDraft();
        if (r.nextInt(4) == 0) x.tellAll(12);
        int e = x.close();
        if (e < 0) {
            if (r.nextInt(3) > 0) x.drop();
        } else {
            stat("draft closed");
        }
    }

    void tellQuarrels() {
        int n = x.quarrel(-1);
        for (int k = -2; k <= n; k++) {
            int q = x.quarrel(k);
            if (k >= 0 && q >= 0) {
                stat("quarrel of kind " + q / 1000);
                if (q / 1000 <= 3 && r.nextInt(2) == 0) x.settle(q % 1000, q / 1000, edition());
            }
        }
    }

    void mergeSome() {
        int a = edition();
        int b = edition();
        int base = x.base(a, b);
        if (base == 100) stat("base made");
        int before = x.m.editions.size();
        int settledOnes = x.m.settled.size();
        int e;
        String what;
        switch (r.nextInt(5)) {
            case 0: e = x.carry(a, b); what = "carried"; break;
            case 1: e = x.back(a, b); what = "taken back"; break;
            default: e = x.merge(a, b); what = base == 100 ? "merged on a made base" : "merged";
        }
        if (x.m.editions.size() > before) {
            stat(what);
            if (settledOnes > 0) stat(what + " with settled ones about");
            if (r.nextInt(4) == 0) x.tellAll(e);
        }
        if (r.nextInt(2) == 0) tellQuarrels();
    }

    void settleRight() {
        for (int q : new ArrayList<>(x.m.told)) {
            int n = x.m.editions.size();
            if (q < 4000 && n > 0) x.settle(q % 1000, q / 1000, r.nextInt(n));
        }
    }

    int wild() {
        int[] far = {Integer.MIN_VALUE, Integer.MAX_VALUE, -2, -1, 11, 12, 13, 99, 100, 101, 149, 150, 500, 1 << 30};
        return r.nextInt(3) == 0 ? far[r.nextInt(far.length)] : r.nextInt(14) - 1;
    }

    /** Any call with any arguments. */
    void storm() {
        int a = wild();
        int b = wild();
        int c = wild();
        switch (r.nextInt(26)) {
            case 0: x.end(a); break;
            case 1: x.match(a, b); break;
            case 2: x.next(a); break;
            case 3: x.begin(a); break;
            case 4: x.put(a, b, c, r.nextBoolean() ? 'a' : r.nextLong()); break;
            case 5: x.take(a); break;
            case 6: x.move(a, b, c); break;
            case 7: x.rename(a, r.nextBoolean() ? b : r.nextLong()); break;
            case 8: x.base(a, b); break;
            case 9: x.merge(a, b); break;
            case 10: x.carry(a, b); break;
            case 11: x.back(a, b); break;
            case 12: x.quarrel(a); break;
            case 13: x.settle(a, b, c); break;
            case 14: x.node(a, b); break;
            case 15: x.of(a, b, c); break;
            case 16: x.word(a, b); break;
            case 17: x.writer(a); break;
            case 18: x.name(a); break;
            case 19: x.same(a, b); break;
            case 20: x.print(a, b); break;
            case 21: x.parent(a, b); break;
            case 22: x.from(a, b); break;
            case 23: x.count(a); break;
            case 24: x.fault(r.nextBoolean()); break;
            default: x.first(); x.drop(); x.close(); x.breaks();
        }
    }

    void step() {
        for (int times = r.nextInt(4); times > 0; times--) storm();
        switch (r.nextInt(22)) {
            case 0: x.first(); sayTree(); if (r.nextInt(3) == 0) x.first(); break;
            case 1:
            case 2:
            case 3: {
                sayTree();
                int e = edition();
                if (x.match(e, 1) == 1) stat("matched exactly");
                for (int what = -1; what < 4; what++) x.match(e, what);
                for (int k = 99; k < 126; k++) x.match(e, k);
                if (r.nextInt(3) > 0 && x.next(e) >= 0) stat("next");
                break;
            }
            case 4: x.begin(edition()); break;
            case 5: x.drop(); break;
            case 6: x.close(); break;
            case 7:
            case 8: changeDraft(); break;
            case 9:
            case 10:
            case 11: draft(); break;
            case 12:
            case 13:
            case 14:
            case 15: mergeSome(); break;
            case 16: settleRight(); break;
            case 17: x.settle(number(), r.nextInt(5), edition()); break;
            case 18: if (r.nextInt(3) == 0) x.unsettle(); break;
            case 19: x.tellAll(r.nextInt(14)); break;
            case 20:
                x.writer(number());
                x.same(edition(), edition());
                x.from(edition(), edition());
                for (int what = -1; what < 7; what++) x.count(what);
                break;
            default: x.grammar(); x.fault(false);
        }
    }

    /** A draft on an edition that is changed until it can be closed; the edition, or the old one. */
    int branch(int e, int changes) {
        x.drop();
        x.begin(e);
        for (int i = 0; i < changes; i++) changeDraft();
        int come = x.close();
        for (int i = 0; i < 6 && come < 0; i++) {
            changeDraft();
            come = x.close();
        }
        return come < 0 ? e : come;
    }

    /** As branch(), but with many new nodes, so that merged editions come near 40 nodes and over. */
    int grow(int e) {
        x.drop();
        x.begin(e);
        for (int i = 0; i < 16 + r.nextInt(8); i++) {
            x.put(draftNumber(), 0, r.nextInt(x.m.grammar.size()), Calls.word("n" + r.nextInt(100)));
        }
        int come = x.close();
        return come < 0 ? e : come;
    }

    /** A draft in which children of one node change places, so that sides come to say unlike orders. */
    int shuffle(int e) {
        x.drop();
        if (!x.begin(e)) return e;
        List<Model.Node> all = x.m.draft.all();
        Model.Node most = all.get(0);
        for (Model.Node n : all) {
            if (n.children.size() > most.children.size()) most = n;
        }
        Model.Node into = r.nextInt(4) == 0 ? all.get(r.nextInt(all.size())) : most;
        for (int times = 1 + r.nextInt(3); times > 0; times--) {
            List<Model.Node> from = r.nextInt(4) == 0 ? all : most.children;
            if (from.isEmpty()) continue;
            int node = from.get(r.nextInt(from.size())).id;
            if (x.move(node, into.id, r.nextInt(into.children.size() + 1))) stat("shuffled");
        }
        if (r.nextInt(3) == 0) changeDraft();
        int come = x.close();
        return come < 0 ? e : come;
    }

    /** One edition shuffled twice, and the two merged and carried; once more from there. */
    void disorder() {
        int root = r.nextInt(x.m.editions.size());
        for (int i = 0; i < 2; i++) {
            int a = shuffle(root);
            int b = shuffle(root);
            int m = mergeSettling(a, b);
            x.carry(b, a);
            tellQuarrels();
            x.back(a, m);
            tellQuarrels();
            if (m >= 0) root = m;
        }
    }

    int mergeSettling(int a, int b) {
        int e = x.merge(a, b);
        tellQuarrels();
        for (int i = 0; i < 3 && e < 0; i++) {
            for (int q : new ArrayList<>(x.m.told)) {
                if (q < 4000) x.settle(q % 1000, q / 1000, r.nextBoolean() ? a : b);
            }
            e = x.merge(a, b);
            tellQuarrels();
            if (e >= 0) stat("merged as settled");
        }
        return e;
    }

    /** Two branches of one edition merged both ways, each result changed, and those merged on a made base. */
    void cross() {
        int many = 1 + r.nextInt(5);
        int root = r.nextInt(x.m.editions.size());
        boolean large = r.nextInt(4) == 0;
        int a = large ? grow(root) : branch(root, many);
        int b = large ? grow(root) : branch(root, many);
        int m = mergeSettling(a, b);
        int n = mergeSettling(b, a);
        if (m < 0 || n < 0 || m == n) return;
        if (x.m.editions.get(m).root.all().size() > 30) stat("merged to over 30 nodes");
        if (r.nextInt(3) == 0) x.unsettle();
        int c = branch(m, r.nextInt(3));
        int d = branch(n, r.nextInt(3));
        if (x.base(c, d) == 100) stat("base made");
        if (mergeSettling(c, d) >= 0) stat("merged on a made base");
        tellQuarrels();
        for (int i = 0; i < 3; i++) mergeSome();
    }

    void run() {
        String grammar = pick(GRAMMARS);
        for (int times = r.nextInt(20); times > 0; times--) storm();
        for (int times = r.nextInt(3); times > 0; times--) {
            x.say(broken(grammar));
            x.fault(false);
            x.fault(true);
            x.breaks();
            if (r.nextInt(20) == 0) x.grammar();
        }
        x.say(grammar);
        x.grammar();
        if (x.m.grammar.isEmpty()) return;
        x.say(anyTree());
        x.first();
        int way = x.m.editions.isEmpty() ? 0 : r.nextInt(4);
        if (way == 1) disorder();
        if (way >= 2) {
            cross();
            cross();
        }
        for (int i = 0; i < 150 && x.wrong == 0; i++) step();
        for (int e = -1; e < 13; e++) x.tellAll(e);
        for (int a = -1; a < 13; a++) {
            for (int b = -1; b < 13; b++) {
                x.base(a, b);
                x.from(a, b);
                x.same(a, b);
            }
        }
        for (int n = -1; n <= 150; n++) x.writer(n);
    }

    public static void main(String[] args) {
        int runs = args.length > 0 && args[0].matches("[0-9]+") ? Integer.parseInt(args[0]) : 1500;
        int from = args.length > 1 ? Integer.parseInt(args[1]) : 0;
        long calls = 0;
        for (int seed = from; seed < from + runs; seed++) {
            ModelTest t = new ModelTest(seed);
            t.run();
            calls += t.x.calls();
            if (t.x.wrong > 0) {
                System.out.println("seed " + seed + ":");
                List<String> log = t.x.log;
                int at = 0;
                while (!log.get(at).startsWith("  but")) at++;
                for (int i = Math.max(0, at - 60); i <= at; i++) System.out.println("  " + log.get(i));
                System.exit(1);
            }
        }
        System.out.println(STATS);
        System.out.println("ModelTest: " + runs + " runs, " + calls + " calls answered alike");
    }
}
