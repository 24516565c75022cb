import java.util.ArrayList;
import java.util.Collections;
import java.util.Comparator;
import java.util.HashMap;
import java.util.HashSet;
import java.util.List;
import java.util.Map;
import java.util.Set;
import java.util.TreeMap;
import java.util.TreeSet;
import java.util.regex.Matcher;
import java.util.regex.Pattern;

/**
 * A second writing of the document with the whole Java library, slow and plain, for ModelTest to hold the
 * program against. It shares no code with it.
 */
final class Model {
    static final class Node {
        int id;
        int kind;
        String word = "";
        Node parent;
        List<Node> children = new ArrayList<>();

        List<Node> all() {
            List<Node> found = new ArrayList<>();
            found.add(this);
            for (Node c : children) found.addAll(c.all());
            return found;
        }

        Node copy(Node above) {
            Node n = new Node();
            n.id = id;
            n.kind = kind;
            n.word = word;
            n.parent = above;
            for (Node c : children) n.children.add(c.copy(n));
            return n;
        }

        int depth() {
            return parent == null ? 1 : 1 + parent.depth();
        }

        boolean isUnder(Node other) {
            return this == other || (parent != null && parent.isUnder(other));
        }
    }

    static final class Token {
        int place;
        String text;

        Token(int place, String text) {
            this.place = place;
            this.text = text;
        }

        boolean isName() {
            return text.matches("[a-z]+") && !text.equals("leaf") && !text.equals("set");
        }
    }

    static final class Rule {
        String name;
        String shape;
        List<String> items = new ArrayList<>();
        List<String> marks = new ArrayList<>();
    }

    static final class Edition {
        Node root;
        List<Integer> parents = new ArrayList<>();
        Set<Integer> from = new HashSet<>();
    }

    static final Pattern TOKEN = Pattern.compile("[a-z]+|\\{[a-z0-9]{1,8}\\}|[=;*?()]");
    static final Pattern CUT = Pattern.compile("\\{[a-z0-9]{0,8}");

    final StringBuilder text = new StringBuilder();
    List<Rule> grammar = new ArrayList<>();
    final List<Edition> editions = new ArrayList<>();
    final List<Integer> writers = new ArrayList<>();
    Node draft;
    int draftOf;
    Set<Integer> draftNumbers = new HashSet<>();
    final Map<Integer, Integer> settled = new HashMap<>();
    List<Integer> told = new ArrayList<>();

    // ---- text ----

    int feed(int... five) {
        if (text.length() + 20 > 500) return -1;
        for (int n : five) {
            for (int i = 3; i >= 0; i--) text.append((char) ((n >> (8 * i)) & 255));
        }
        return text.length();
    }

    boolean end(int n) {
        if (n < 0 || n > text.length()) return false;
        text.setLength(n);
        return true;
    }

    /** All tokens; the last one is "end" at the length, "cut" for a word cut off, or "bad". */
    List<Token> tokens() {
        List<Token> found = new ArrayList<>();
        int at = 0;
        while (true) {
            while (at < text.length() && (text.charAt(at) == ' ' || text.charAt(at) == '\n')) at++;
            if (at == text.length()) {
                found.add(new Token(at, "END"));
                return found;
            }
            Matcher m = TOKEN.matcher(text);
            m.region(at, text.length());
            if (!m.lookingAt()) {
                boolean cut = CUT.matcher(text.substring(at)).matches();
                found.add(new Token(at, cut ? "CUT" : "BAD"));
                return found;
            }
            found.add(new Token(at, m.group()));
            at = m.end();
        }
    }

    /** An int or a list of rules. */
    Object readGrammar() {
        List<Token> t = tokens();
        List<Rule> rules = new ArrayList<>();
        Set<String> names = new HashSet<>();
        List<Token> used = new ArrayList<>();
        int i = 0;
        while (true) {
            Rule r = new Rule();
            Token n = t.get(i);
            if (!n.isName() || names.contains(n.text) || rules.size() == 10) return n.place;
            r.name = n.text;
            i++;
            r.shape = t.get(i).text;
            if (!r.shape.equals("leaf") && !r.shape.equals("set") && !r.shape.equals("=")) return t.get(i).place;
            i++;
            if (!r.shape.equals("leaf")) {
                if (!t.get(i).isName()) return t.get(i).place;
                while (t.get(i).isName()) {
                    used.add(t.get(i));
                    r.items.add(t.get(i).text);
                    i++;
                    String mark = t.get(i).text;
                    if (r.shape.equals("=") && (mark.equals("*") || mark.equals("?"))) {
                        r.marks.add(mark);
                        i++;
                    } else {
                        r.marks.add("");
                    }
                }
            }
            if (!t.get(i).text.equals(";")) return t.get(i).place;
            i++;
            names.add(r.name);
            rules.add(r);
            if (t.get(i).text.equals("END")) break;
        }
        for (Token u : used) {
            if (!names.contains(u.text)) return u.place;
        }
        return rules;
    }

    int kindOf(String name) {
        for (int k = 0; k < grammar.size(); k++) {
            if (grammar.get(k).name.equals(name)) return k;
        }
        return -1;
    }

    int at;
    int nodes;
    int fault;

    /** The tree, or null and the fault. */
    Node readTree() {
        at = 0;
        nodes = 0;
        fault = -1;
        List<Token> t = tokens();
        Node root = readNode(t, null, 1);
        if (root != null && !t.get(at).text.equals("END")) {
            fault = t.get(at).place;
            root = null;
        }
        if (root == null) return null;
        sortSets(root, false);
        return root;
    }

    Node readNode(List<Token> t, Node parent, int depth) {
        Token n = t.get(at);
        if (!n.isName() || kindOf(n.text) < 0 || nodes == 24) {
            fault = n.place;
            return null;
        }
        Node node = new Node();
        nodes++;
        node.kind = kindOf(n.text);
        node.parent = parent;
        at++;
        if (t.get(at).text.equals("CUT")) {
            fault = text.length();
            return null;
        }
        if (t.get(at).text.startsWith("{")) {
            String w = t.get(at).text;
            node.word = w.substring(1, w.length() - 1);
            at++;
        }
        if (!t.get(at).text.equals("(")) return node;
        if (depth == 8) {
            fault = t.get(at).place;
            return null;
        }
        at++;
        do {
            Node c = readNode(t, node, depth + 1);
            if (c == null) return null;
            node.children.add(c);
        } while (!t.get(at).text.equals(")"));
        at++;
        return node;
    }

    void sortSets(Node node, boolean numbers) {
        if (grammar.get(node.kind).shape.equals("set")) {
            Comparator<Node> order = Comparator.<Node>comparingInt(n -> n.kind).thenComparing(n -> n.word);
            if (numbers) order = order.thenComparingInt(n -> n.id);
            node.children.sort(order);
        }
        for (Node c : node.children) sortSets(c, numbers);
    }

    int fault(boolean tree) {
        if (tree) {
            readTree();
            return fault;
        }
        Object r = readGrammar();
        return r instanceof Integer ? (Integer) r : -1;
    }

    @SuppressWarnings("unchecked")
    int grammar() {
        Object r = readGrammar();
        if (!grammar.isEmpty() || r instanceof Integer) return -1;
        grammar = (List<Rule>) r;
        text.setLength(0);
        return grammar.size();
    }

    boolean fitsButLikes(int kind, List<Node> children) {
        Rule r = grammar.get(kind);
        if (r.shape.equals("leaf")) return children.isEmpty();
        if (r.shape.equals("set")) {
            for (Node c : children) {
                if (!r.items.contains(grammar.get(c.kind).name)) return false;
            }
            return true;
        }
        StringBuilder pattern = new StringBuilder();
        for (int i = 0; i < r.items.size(); i++) {
            pattern.append((char) ('A' + kindOf(r.items.get(i)))).append(r.marks.get(i));
        }
        StringBuilder said = new StringBuilder();
        for (Node c : children) said.append((char) ('A' + c.kind));
        return said.toString().matches(pattern.toString());
    }

    boolean likes(int kind, List<Node> children) {
        Set<String> seen = new HashSet<>();
        for (Node c : children) {
            if (!seen.add(c.kind + "/" + c.word)) return grammar.get(kind).shape.equals("set");
        }
        return false;
    }

    int firstBreak(Node root) {
        if (root.kind != 0) return 0;
        List<Node> all = root.all();
        for (int i = 0; i < all.size(); i++) {
            Node n = all.get(i);
            if (!fitsButLikes(n.kind, n.children) || likes(n.kind, n.children)) return i;
        }
        return -1;
    }

    int breaks() {
        Node root = readTree();
        return root == null ? -1 : firstBreak(root);
    }

    // ---- editions ----

    boolean has(int e) {
        return e >= 0 && e < editions.size();
    }

    int add(Node root, int... parents) {
        Edition e = new Edition();
        e.root = root;
        e.from.add(editions.size());
        for (int p : parents) {
            if (p >= 0) {
                e.parents.add(p);
                e.from.addAll(editions.get(p).from);
            }
        }
        editions.add(e);
        return editions.size() - 1;
    }

    int first() {
        Node root = readTree();
        if (root == null || firstBreak(root) >= 0 || editions.size() == 12) return -1;
        return comeOfText(root, new HashMap<>(), -1);
    }

    int comeOfText(Node root, Map<Node, Node> toA, int parent) {
        List<Node> all = root.all();
        if (writers.size() + all.size() - toA.size() > 150) return -1;
        for (Node n : all) {
            if (toA.containsKey(n)) {
                n.id = toA.get(n).id;
            } else {
                n.id = writers.size();
                writers.add(editions.size());
            }
        }
        text.setLength(0);
        return add(root, parent);
    }

    int cost(List<Node> as, List<Node> bs, Map<Node, Node> toB) {
        int sum = 2 * (as.size() + bs.size()) - 4 * toB.size();
        for (Node a : as) {
            Node b = toB.get(a);
            if (b == null) continue;
            if (!a.word.equals(b.word)) sum++;
            if (a.parent != null && toB.get(a.parent) != b.parent) sum++;
        }
        return sum;
    }

    int bestCost;
    Map<Node, Node> best;

    void tryAll(List<Node> as, List<Node> bs, int i, Map<Node, Node> toB) {
        if (i == as.size()) {
            int c = cost(as, bs, toB);
            if (best == null || c < bestCost) {
                bestCost = c;
                best = new HashMap<>(toB);
            }
            return;
        }
        for (Node b : bs) {
            if (b.kind == as.get(i).kind && !toB.containsValue(b)) {
                toB.put(as.get(i), b);
                tryAll(as, bs, i + 1, toB);
                toB.remove(as.get(i));
            }
        }
        tryAll(as, bs, i + 1, toB);
    }

    static boolean sameTree(Node a, Node b) {
        if (a.kind != b.kind || !a.word.equals(b.word) || a.children.size() != b.children.size()) return false;
        for (int i = 0; i < a.children.size(); i++) {
            if (!sameTree(a.children.get(i), b.children.get(i))) return false;
        }
        return true;
    }

    Map<Node, Node> pairUp(Node a, Node b) {
        List<Node> as = a.all();
        List<Node> bs = b.all();
        Map<Node, Node> toB = new HashMap<>();
        toB.put(a, b);
        if (as.size() <= 6 && bs.size() <= 6) {
            best = null;
            tryAll(as, bs, 1, toB);
            return best;
        }
        for (int round = 1; round <= 4; round++) {
            for (Node x : as) {
                if (toB.containsKey(x)) continue;
                for (Node y : bs) {
                    if (toB.containsValue(y) || !agree(round, x, y, toB)) continue;
                    if (round == 1) {
                        List<Node> xs = x.all();
                        List<Node> ys = y.all();
                        for (int i = 0; i < xs.size(); i++) toB.put(xs.get(i), ys.get(i));
                    } else {
                        toB.put(x, y);
                    }
                    break;
                }
            }
        }
        return toB;
    }

    boolean agree(int round, Node x, Node y, Map<Node, Node> toB) {
        boolean sameKind = x.kind == y.kind;
        boolean sameWord = x.word.equals(y.word);
        boolean parents = x.parent != null && y.parent != null && toB.get(x.parent) == y.parent;
        switch (round) {
            case 1:
                if (!sameTree(x, y)) return false;
                for (Node n : x.all()) if (toB.containsKey(n)) return false;
                for (Node n : y.all()) if (toB.containsValue(n)) return false;
                return true;
            case 2:
                return sameKind && sameWord && parents;
            case 3:
                return sameKind && parents;
            default:
                return sameKind && sameWord;
        }
    }

    int match(int edition, int what) {
        Node b = readTree();
        if (b == null || b.kind != 0 || !has(edition)) return -1;
        Node a = editions.get(edition).root;
        List<Node> as = a.all();
        List<Node> bs = b.all();
        Map<Node, Node> toB = pairUp(a, b);
        if (what == 0) return cost(as, bs, toB);
        if (what == 1) return as.size() <= 6 && bs.size() <= 6 ? 1 : 0;
        if (what == 2) {
            int sum = 0;
            for (int k = 0; k < grammar.size(); k++) {
                final int kind = k;
                sum += Math.abs(as.stream().filter(n -> n.kind == kind).count()
                        - bs.stream().filter(n -> n.kind == kind).count());
            }
            return 2 * sum;
        }
        if (what < 100 || what - 100 >= bs.size()) return -1;
        for (Map.Entry<Node, Node> pair : toB.entrySet()) {
            if (pair.getValue() == bs.get(what - 100)) return pair.getKey().id;
        }
        return -1;
    }

    int next(int parent) {
        Node b = readTree();
        if (b == null || firstBreak(b) >= 0 || editions.size() == 12 || !has(parent)) return -1;
        Map<Node, Node> toA = new HashMap<>();
        pairUp(editions.get(parent).root, b).forEach((x, y) -> toA.put(y, x));
        return comeOfText(b, toA, parent);
    }

    // ---- draft ----

    boolean begin(int edition) {
        if (draft != null || !has(edition)) return false;
        draft = editions.get(edition).root.copy(null);
        draftOf = edition;
        draftNumbers.clear();
        return true;
    }

    boolean drop() {
        if (draft == null) return false;
        draft = null;
        return true;
    }

    static Node find(Node root, int id) {
        if (root == null) return null;
        for (Node n : root.all()) if (n.id == id) return n;
        return null;
    }

    /** Null if a byte can't be. */
    static String wordOf(long word) {
        StringBuilder s = new StringBuilder();
        for (int i = 7; i >= 0; i--) {
            int b = (int) ((word >> (8 * i)) & 255);
            if (b != 0) s.append((char) b);
        }
        return s.toString().matches("[a-z0-9]*") ? s.toString() : null;
    }

    static long numberOf(String word) {
        long n = 0;
        for (char c : word.toCharArray()) n = n * 256 + c;
        return n;
    }

    boolean isSet(Node n) {
        return grammar.get(n.kind).shape.equals("set");
    }

    int put(int parent, int place, int kind, long word) {
        Node p = find(draft, parent);
        if (p == null || kind < 0 || kind >= grammar.size() || wordOf(word) == null) return -1;
        if (!isSet(p) && (place < 0 || place > p.children.size())) return -1;
        if (draft.all().size() >= 24 || writers.size() >= 150) return -1;
        Node n = new Node();
        n.id = writers.size();
        writers.add(-1);
        draftNumbers.add(n.id);
        n.kind = kind;
        n.word = wordOf(word);
        n.parent = p;
        p.children.add(isSet(p) ? 0 : place, n);
        sortSets(draft, true);
        return n.id;
    }

    boolean take(int node) {
        Node n = find(draft, node);
        if (n == null || n == draft || !n.children.isEmpty()) return false;
        n.parent.children.remove(n);
        return true;
    }

    boolean move(int node, int parent, int place) {
        Node n = find(draft, node);
        Node p = find(draft, parent);
        if (n == null || p == null || n == draft || p.isUnder(n)) return false;
        List<Node> left = new ArrayList<>(p.children);
        left.remove(n);
        if (!isSet(p) && (place < 0 || place > left.size())) return false;
        n.parent.children.remove(n);
        n.parent = p;
        p.children.add(isSet(p) ? 0 : place, n);
        sortSets(draft, true);
        return true;
    }

    boolean rename(int node, long word) {
        Node n = find(draft, node);
        if (n == null || wordOf(word) == null || n.word.equals(wordOf(word))) return false;
        n.word = wordOf(word);
        sortSets(draft, true);
        return true;
    }

    int close() {
        if (draft == null || firstBreak(draft) >= 0 || editions.size() == 12) return -1;
        for (int n : draftNumbers) writers.set(n, editions.size());
        int e = add(draft, draftOf);
        draft = null;
        return e;
    }

    // ---- merging ----

    static Map<Integer, Node> index(Node root) {
        Map<Integer, Node> found = new TreeMap<>();
        for (Node n : root.all()) found.put(n.id, n);
        return found;
    }

    static int up(Node n) {
        return n == null || n.parent == null ? -1 : n.parent.id;
    }

    static boolean touched(Node n, Map<Integer, Node> base) {
        for (Node m : n.all()) {
            Node o = base.get(m.id);
            if (o == null || !o.word.equals(m.word) || up(o) != up(m)) return true;
        }
        return false;
    }

    Set<Integer> latest(int one, int other) {
        Set<Integer> common = new TreeSet<>(editions.get(one).from);
        common.retainAll(editions.get(other).from);
        Set<Integer> left = new TreeSet<>();
        for (int e : common) {
            boolean other2 = false;
            for (int f : common) other2 |= f != e && editions.get(f).from.contains(e);
            if (!other2) left.add(e);
        }
        return left;
    }

    Node made;

    int base(int one, int other) {
        if (!has(one) || !has(other)) return -1;
        List<Integer> found = new ArrayList<>(latest(one, other));
        if (found.isEmpty()) return -1;
        if (found.size() == 1) return found.get(0);
        List<Integer> theirs = new ArrayList<>(latest(found.get(0), found.get(1)));
        if (theirs.size() != 1) return -1;
        Merge m = new Merge(found.get(0), found.get(1), editions.get(theirs.get(0)).root);
        if (!m.quarrels.isEmpty()) return -1;
        made = m.root;
        return 100;
    }

    int merge(int one, int other) {
        if (!has(one) || !has(other)) return -1;
        if (editions.get(one).from.contains(other)) return one;
        if (editions.get(other).from.contains(one)) return other;
        if (editions.size() == 12) return -1;
        int b = base(one, other);
        if (b < 0) return -1;
        return come(new Merge(one, other, b == 100 ? made : editions.get(b).root), one, other);
    }

    int come(Merge m, int... parents) {
        told = new ArrayList<>(m.quarrels);
        return told.isEmpty() ? add(m.root, parents) : -1;
    }

    int carry(int edition, int to) {
        if (!has(edition) || !has(to) || editions.get(edition).parents.size() != 1) return -1;
        if (latest(edition, to).isEmpty() || editions.size() == 12) return -1;
        return come(new Merge(edition, to, editions.get(editions.get(edition).parents.get(0)).root), to);
    }

    int back(int edition, int out) {
        if (!has(edition) || !has(out) || editions.get(edition).parents.size() != 1) return -1;
        if (edition == out || !editions.get(out).from.contains(edition) || editions.size() == 12) return -1;
        return come(new Merge(editions.get(edition).parents.get(0), out, editions.get(edition).root), out);
    }

    final class Merge {
        final TreeSet<Integer> quarrels = new TreeSet<>();
        final Map<Integer, Node> a;
        final Map<Integer, Node> b;
        final Map<Integer, Node> o;
        final int ea;
        final int eb;
        final Map<Integer, Node> stand = new TreeMap<>();
        final Map<Integer, Integer> ups = new TreeMap<>();
        Node root;

        Merge(int one, int other, Node base) {
            ea = one;
            eb = other;
            a = index(editions.get(one).root);
            b = index(editions.get(other).root);
            o = index(base);
            Set<Integer> all = new TreeSet<>(a.keySet());
            all.addAll(b.keySet());
            for (int n : all) weigh(n);
            if (!quarrels.isEmpty()) return;
            dropLed();
            rings();
            if (stand.size() > 40) quarrels.add(8000 + editions.get(one).root.id);
            if (!quarrels.isEmpty()) return;
            root = stand.get(editions.get(one).root.id);
            for (int n : stand.keySet()) order(stand.get(n));
        }

        Node side(int n, int kind) {
            Integer e = settled.get(n * 10 + kind);
            if (e == null) return null;
            return e == ea ? a.get(n) : e == eb ? b.get(n) : null;
        }

        void weigh(int n) {
            Node x = a.get(n);
            Node y = b.get(n);
            Node z = o.get(n);
            Node one = x != null ? x : y;
            if (x == null || y == null) {
                if (z != null) {
                    if (!touched(one, o)) return;
                    Integer e = settled.get(n * 10 + 1);
                    if (e == null || (e != ea && e != eb)) {
                        quarrels.add(1000 + n);
                        return;
                    }
                    if (side(n, 1) == null) return;
                }
                stand(one, one.word, up(one));
                return;
            }
            String word = x.word;
            if (!x.word.equals(y.word)) {
                if (z != null && x.word.equals(z.word)) {
                    word = y.word;
                } else if (z == null || !y.word.equals(z.word)) {
                    if (side(n, 2) == null) {
                        quarrels.add(2000 + n);
                    } else {
                        word = side(n, 2).word;
                    }
                }
            }
            int up = up(x);
            if (up(x) != up(y)) {
                if (z != null && up(x) == up(z)) {
                    up = up(y);
                } else if (z == null || up(y) != up(z)) {
                    if (side(n, 3) == null) {
                        quarrels.add(3000 + n);
                    } else {
                        up = up(side(n, 3));
                    }
                }
            }
            stand(x, word, up);
        }

        void stand(Node n, String word, int up) {
            Node m = new Node();
            m.id = n.id;
            m.kind = n.kind;
            m.word = word;
            stand.put(n.id, m);
            ups.put(n.id, up);
        }

        void dropLed() {
            Set<Integer> gone = new HashSet<>();
            for (int n : stand.keySet()) {
                int m = n;
                for (int i = 0; i < 1000 && m != -1 && stand.containsKey(m); i++) m = ups.get(m);
                if (m != -1 && !stand.containsKey(m)) gone.add(n);
            }
            stand.keySet().removeAll(gone);
        }

        void rings() {
            for (int n : stand.keySet()) {
                List<Integer> path = new ArrayList<>();
                int m = n;
                while (m != -1 && !path.contains(m)) {
                    path.add(m);
                    m = ups.get(m);
                }
                if (m == n) quarrels.add(4000 + Collections.min(path));
            }
        }

        /** -1, 1, or 0: this tree doesn't say. */
        int says(Map<Integer, Node> side, int p, Node x, Node y) {
            Node s = side.get(p);
            if (s == null) return 0;
            int i = s.children.indexOf(side.get(x.id));
            int j = s.children.indexOf(side.get(y.id));
            return i < 0 || j < 0 ? 0 : i < j ? -1 : 1;
        }

        void order(Node p) {
            List<Node> left = new ArrayList<>();
            for (Node n : stand.values()) {
                if (ups.get(n.id) == p.id) left.add(n);
            }
            left.sort(Comparator.<Node>comparingInt(n -> n.kind).thenComparing(n -> n.word)
                    .thenComparingInt(n -> n.id));
            boolean wrong = false;
            Set<String> ahead = new HashSet<>();
            for (Node x : left) {
                for (Node y : left) {
                    if (x == y || isSet(p)) continue;
                    int i = says(a, p.id, x, y);
                    int j = says(b, p.id, x, y);
                    int k = says(o, p.id, x, y);
                    int sum = i == 0 ? j : j == 0 || i == j ? i : k == 0 ? 9 : i == k ? j : i;
                    if (sum == 9) wrong = true;
                    if (sum == -1) ahead.add(x.id + "<" + y.id);
                }
            }
            while (!left.isEmpty() && !wrong) {
                Node found = null;
                for (Node x : left) {
                    boolean free = true;
                    for (Node y : left) free &= !ahead.contains(y.id + "<" + x.id);
                    if (free && found == null) found = x;
                }
                if (found == null) {
                    wrong = true;
                } else {
                    left.remove(found);
                    found.parent = p;
                    p.children.add(found);
                }
            }
            if (wrong) {
                quarrels.add(5000 + p.id);
                return;
            }
            if (!fitsButLikes(p.kind, p.children)) quarrels.add(6000 + p.id);
            if (likes(p.kind, p.children)) quarrels.add(7000 + p.id);
        }
    }

    int quarrel(int k) {
        if (k == -1) return told.size();
        return k >= 0 && k < told.size() ? told.get(k) : -1;
    }

    boolean settle(int node, int kind, int edition) {
        if (node < 0 || node >= writers.size() || kind < 1 || kind > 3 || !has(edition)) return false;
        settled.put(node * 10 + kind, edition);
        return true;
    }

    int unsettle() {
        int n = settled.size();
        settled.clear();
        return n;
    }

    // ---- telling ----

    int node(int edition, int k) {
        if (!has(edition)) return -1;
        List<Node> all = editions.get(edition).root.all();
        return k == -1 ? all.size() : k >= 0 && k < all.size() ? all.get(k).id : -1;
    }

    Node seek(int edition, int node) {
        return edition == 12 ? find(draft, node) : has(edition) ? find(editions.get(edition).root, node) : null;
    }

    int of(int edition, int node, int what) {
        Node n = seek(edition, node);
        if (n == null) return -1;
        switch (what) {
            case 0: return n.kind;
            case 1: return up(n);
            case 2: return n.parent == null ? 0 : n.parent.children.indexOf(n);
            case 3: return n.children.size();
            case 4: return nameOf(n);
            case 5: return edition == 12 ? -1 : writerOf(edition, node, n.word);
            case 6: return n.depth();
            default: return -1;
        }
    }

    int writerOf(int edition, int node, String word) {
        for (int p : editions.get(edition).parents) {
            Node n = find(editions.get(p).root, node);
            if (n != null && n.word.equals(word)) return writerOf(p, node, word);
        }
        return edition;
    }

    int nameOf(Node n) {
        long h = (n.kind + 7) % 1000003L;
        for (char c : n.word.toCharArray()) h = (h * 31 + c) % 1000003L;
        for (Node c : n.children) h = (h * 37 + nameOf(c) + 1) % 1000003L;
        return (int) h;
    }

    long word(int edition, int node) {
        Node n = seek(edition, node);
        return n == null ? 0 : numberOf(n.word);
    }

    int writer(int node) {
        return node >= 0 && node < writers.size() ? writers.get(node) : -1;
    }

    int name(int edition) {
        return has(edition) ? nameOf(editions.get(edition).root) : -1;
    }

    boolean same(int one, int other) {
        return has(one) && has(other) && sameTree(editions.get(one).root, editions.get(other).root);
    }

    String printed(Node n) {
        StringBuilder s = new StringBuilder(grammar.get(n.kind).name);
        if (!n.word.isEmpty()) s.append("{" + n.word + "}");
        for (int i = 0; i < n.children.size(); i++) s.append(i == 0 ? "(" : " ").append(printed(n.children.get(i)));
        return n.children.isEmpty() ? s.toString() : s.append(")").toString();
    }

    int print(int edition, int k) {
        if (!has(edition)) return -1;
        String s = printed(editions.get(edition).root);
        return k == -1 ? s.length() : k >= 0 && k < s.length() ? s.charAt(k) : -1;
    }

    int parent(int edition, int k) {
        if (!has(edition) || k < 0 || k >= editions.get(edition).parents.size()) return -1;
        return editions.get(edition).parents.get(k);
    }

    boolean from(int edition, int other) {
        return has(edition) && editions.get(edition).from.contains(other);
    }

    int count(int what) {
        switch (what) {
            case 0: return grammar.size();
            case 1: return editions.size();
            case 2: return writers.size();
            case 3: return text.length();
            case 4: return draft == null ? 0 : 1;
            case 5: return settled.size();
            default: return -1;
        }
    }
}
