import java.util.ArrayList;
import java.util.List;

/** Makes each call on the program and on the model and keeps what they answered otherwise than each other. */
final class Both {
    final TreeMerge x = new TreeMerge();
    final Model m = new Model();
    final List<String> log = new ArrayList<>();
    int wrong;

    private long due(String call, long got, long want) {
        log.add(call + " = " + got);
        if (got != want) {
            wrong++;
            log.add("  but the model says " + want);
        }
        return want;
    }

    private static long n(boolean b) {
        return b ? 1 : 0;
    }

    int calls() {
        return log.size();
    }

    /** Feeds a text in steps of 20 bytes and cuts off what was filled in. */
    void say(String s) {
        end(0);
        for (int i = 0; i < s.length(); i += 20) {
            int[] five = Calls.five(s, i);
            due("feed " + s.substring(i, Math.min(i + 20, s.length())).replace("\n", "\\n"),
                    x.feed(five[0], five[1], five[2], five[3], five[4]), m.feed(five));
        }
        end(s.length());
    }

    boolean end(int k) {
        return due("end(" + k + ")", n(x.end(k)), n(m.end(k))) == 1;
    }

    int fault(boolean tree) {
        return (int) due("fault(" + tree + ")", x.fault(tree), m.fault(tree));
    }

    int grammar() {
        return (int) due("grammar()", x.grammar(), m.grammar());
    }

    int breaks() {
        return (int) due("breaks()", x.breaks(), m.breaks());
    }

    int first() {
        return (int) due("first()", x.first(), m.first());
    }

    int match(int e, int what) {
        return (int) due("match(" + e + ", " + what + ")", x.match(e, what), m.match(e, what));
    }

    int next(int e) {
        return (int) due("next(" + e + ")", x.next(e), m.next(e));
    }

    boolean begin(int e) {
        return due("begin(" + e + ")", n(x.begin(e)), n(m.begin(e))) == 1;
    }

    boolean drop() {
        return due("drop()", n(x.drop()), n(m.drop())) == 1;
    }

    int put(int p, int place, int kind, long word) {
        return (int) due("put(" + p + ", " + place + ", " + kind + ", " + word + ")",
                x.put(p, place, kind, word), m.put(p, place, kind, word));
    }

    boolean take(int node) {
        return due("take(" + node + ")", n(x.take(node)), n(m.take(node))) == 1;
    }

    boolean move(int node, int p, int place) {
        return due("move(" + node + ", " + p + ", " + place + ")",
                n(x.move(node, p, place)), n(m.move(node, p, place))) == 1;
    }

    boolean rename(int node, long word) {
        return due("rename(" + node + ", " + word + ")", n(x.rename(node, word)), n(m.rename(node, word))) == 1;
    }

    int close() {
        return (int) due("close()", x.close(), m.close());
    }

    int base(int a, int b) {
        return (int) due("base(" + a + ", " + b + ")", x.base(a, b), m.base(a, b));
    }

    int merge(int a, int b) {
        return (int) due("merge(" + a + ", " + b + ")", x.merge(a, b), m.merge(a, b));
    }

    int carry(int a, int b) {
        return (int) due("carry(" + a + ", " + b + ")", x.carry(a, b), m.carry(a, b));
    }

    int back(int a, int b) {
        return (int) due("back(" + a + ", " + b + ")", x.back(a, b), m.back(a, b));
    }

    int quarrel(int k) {
        return (int) due("quarrel(" + k + ")", x.quarrel(k), m.quarrel(k));
    }

    boolean settle(int node, int kind, int e) {
        return due("settle(" + node + ", " + kind + ", " + e + ")",
                n(x.settle(node, kind, e)), n(m.settle(node, kind, e))) == 1;
    }

    int unsettle() {
        return (int) due("unsettle()", x.unsettle(), m.unsettle());
    }

    int node(int e, int k) {
        return (int) due("node(" + e + ", " + k + ")", x.node(e, k), m.node(e, k));
    }

    int of(int e, int node, int what) {
        return (int) due("of(" + e + ", " + node + ", " + what + ")", x.of(e, node, what), m.of(e, node, what));
    }

    long word(int e, int node) {
        return due("word(" + e + ", " + node + ")", x.word(e, node), m.word(e, node));
    }

    int writer(int node) {
        return (int) due("writer(" + node + ")", x.writer(node), m.writer(node));
    }

    int name(int e) {
        return (int) due("name(" + e + ")", x.name(e), m.name(e));
    }

    boolean same(int a, int b) {
        return due("same(" + a + ", " + b + ")", n(x.same(a, b)), n(m.same(a, b))) == 1;
    }

    int print(int e, int k) {
        return (int) due("print(" + e + ", " + k + ")", x.print(e, k), m.print(e, k));
    }

    int parent(int e, int k) {
        return (int) due("parent(" + e + ", " + k + ")", x.parent(e, k), m.parent(e, k));
    }

    boolean from(int a, int b) {
        return due("from(" + a + ", " + b + ")", n(x.from(a, b)), n(m.from(a, b))) == 1;
    }

    int count(int what) {
        return (int) due("count(" + what + ")", x.count(what), m.count(what));
    }

    /** Everything that can be told of an edition (12: the draft). */
    void tellAll(int e) {
        int all = node(e, -1);
        for (int k = -1; k <= all; k++) node(e, k);
        for (int n = 0; n < m.writers.size(); n++) {
            for (int what = -1; what <= 7; what++) of(e, n, what);
            word(e, n);
        }
        name(e);
        int bytes = print(e, -1);
        for (int k = -2; k <= bytes; k++) print(e, k);
        for (int k = -1; k <= 2; k++) parent(e, k);
    }
}
