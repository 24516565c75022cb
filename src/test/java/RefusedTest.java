import java.util.LinkedHashMap;
import java.util.Map;
import java.util.function.Supplier;
import java.util.function.ToLongFunction;

/**
 * "What is refused changes nothing": in many states each call is made with many arguments; an object on which
 * calls were refused, or only asked, must tell the same as its twin on which they weren't made.
 */
public final class RefusedTest {
    private static final Calls C = new Calls();
    private static final String G = "doc = par* tags? ; par = par* ; tags set tag par ; tag leaf ;";
    private static final String PARS = "doc = par* ; par = par* ;";
    private static final int[] MANY = {Integer.MIN_VALUE, -101, -2, -1, 0, 1, 2, 3, 4, 5, 7, 11, 12, 13, 24, 40, 100, 101, 148, 149,
        150, 499, 500, 501, Integer.MAX_VALUE};
    private static final int[] SOME = {Integer.MIN_VALUE, -1, 0, 1, 2, 4, 6, 12, 149, 150, Integer.MAX_VALUE};
    private static final long[] WORDS = {0, 'a', 'x', 'A', -1, 0x6100000000000000L, 0x8061616161616161L, '{'};
    private static int refused;

    private static long n(boolean b) {
        return b ? 1 : 0;
    }

    private static TreeMerge rich() {
        TreeMerge x = Calls.with(G);
        Calls.first(x, "doc(par{a}(par{b}) par{c} tags(tag{x} par{q}))");
        Calls.edit(x, 0, "r1k", "m3 2 0");
        Calls.edit(x, 0, "r1l", "p4 0 3n");
        Calls.first(x, "doc(par{z})");
        x.settle(1, 2, 1);
        x.merge(1, 2);
        x.settle(1, 2, 0);
        x.settle(3, 1, 2);
        x.settle(2, 3, 4);
        x.merge(1, 2);
        Calls.say(x, "doc(par{a} par{n}(par{b}) tags(tag{y}))");
        return x;
    }

    private static TreeMerge drafted() {
        TreeMerge x = rich();
        x.begin(2);
        x.put(6, 0, 1, 'o');
        x.rename(3, 'p');
        x.move(2, 0, 1);
        return x;
    }

    private static TreeMerge full() {
        TreeMerge x = rich();
        while (x.count(1) < 12) Calls.edit(x, 0, "r0" + (char) ('a' + x.count(1)));
        x.begin(4);
        x.rename(0, 't');
        return x;
    }

    private static TreeMerge numbered() {
        TreeMerge x = Calls.with(PARS);
        for (int i = 0; i < 6; i++) Calls.first(x, "doc(" + "par ".repeat(23) + ")");
        Calls.first(x, "doc(par par par par)");
        Calls.edit(x, 6, "r145a");
        Calls.edit(x, 6, "r145b");
        x.merge(7, 8);
        x.begin(6);
        x.put(144, 0, 1, 'l');
        Calls.say(x, "doc(par{k} par par par par)");
        return x;
    }

    private static TreeMerge crowded(int one, int other) {
        TreeMerge x = Calls.with(PARS);
        Calls.first(x, "doc");
        for (int many : new int[] {one, other}) {
            String[] puts = new String[many];
            java.util.Arrays.fill(puts, "p0 0 1n");
            Calls.edit(x, 0, puts);
        }
        x.begin(x.merge(1, 2));
        Calls.say(x, "doc(par(par))");
        return x;
    }

    private static TreeMerge said(TreeMerge x, String text) {
        Calls.say(x, text);
        return x;
    }

    private static Map<String, Supplier<TreeMerge>> states() {
        Map<String, Supplier<TreeMerge>> all = new LinkedHashMap<>();
        all.put("new", TreeMerge::new);
        all.put("no grammar yet", () -> said(new TreeMerge(), "a = b ; c leaf ;"));
        all.put("500 bytes", () -> said(new TreeMerge(), "a leaf; ".repeat(62) + "a = "));
        all.put("490 bytes", () -> said(Calls.with(G), "doc(par{a}) ".repeat(41).substring(0, 490)));
        all.put("no edition yet", () -> said(Calls.with(G), "doc(par{a} tags par)"));
        all.put("a tree with a fault", () -> said(Calls.with(G), "doc(par{a} tags{"));
        all.put("some editions", RefusedTest::rich);
        all.put("some editions and a draft", RefusedTest::drafted);
        all.put("12 editions", RefusedTest::full);
        all.put("150 numbers", RefusedTest::numbered);
        all.put("a draft of 24", () -> crowded(11, 12));
        all.put("a draft of 40", () -> crowded(19, 20));
        return all;
    }

    /** All that can be told without a change, but the quarrels. */
    private static String told(TreeMerge x) {
        StringBuilder s = new StringBuilder();
        for (int what = 0; what <= 5; what++) s.append(x.count(what)).append(' ');
        s.append(x.fault(true)).append(' ').append(x.fault(false)).append(' ').append(x.breaks()).append('\n');
        for (int e = 0; e <= 12; e++) {
            s.append(e).append(": ").append(Calls.printed(x, e)).append(' ').append(Calls.numbers(x, e)).append(' ')
                    .append(x.name(e)).append(' ').append(x.parent(e, 0)).append(' ').append(x.parent(e, 1)).append(" |");
            for (int node = 0; node < x.count(2); node++) {
                if (x.of(e, node, 0) < 0) continue;
                for (int what = 0; what <= 6; what++) s.append(' ').append(x.of(e, node, what));
                s.append(' ').append(x.word(e, node)).append(',');
            }
            for (int what = 0; what <= 2; what++) s.append(' ').append(x.match(e, what));
            for (int k = 0; k < 24; k++) s.append(' ').append(x.match(e, 100 + k));
            for (int o = 0; o < 12; o++) s.append(' ').append(x.base(e, o)).append(x.from(e, o)).append(x.same(e, o));
            s.append('\n');
        }
        for (int node = 0; node < 150; node++) s.append(x.writer(node)).append(' ');
        return s.toString();
    }

    /** What is left is used up: the text is cut byte by byte, then all is merged with all. */
    private static String spent(TreeMerge x) {
        StringBuilder s = new StringBuilder();
        for (int k = x.count(3); k >= 0; k--) {
            x.end(k);
            s.append(x.fault(true)).append(' ').append(x.fault(false)).append(' ');
        }
        s.append(x.close()).append(' ');
        for (int one = 0; one < 12; one++) {
            for (int other = 0; other < 12; other++) {
                s.append(x.merge(one, other)).append(' ').append(Calls.quarrels(x)).append(' ');
            }
        }
        return s + told(x) + x.unsettle();
    }

    private static ToLongFunction<TreeMerge> call(String name, int a, int b, int c, long word) {
        switch (name) {
            case "feed": return x -> x.feed(a, b, c, a, b);
            case "end": return x -> n(x.end(a));
            case "grammar": return x -> x.grammar();
            case "first": return x -> x.first();
            case "next": return x -> x.next(a);
            case "begin": return x -> n(x.begin(a));
            case "drop": return x -> n(x.drop());
            case "put": return x -> x.put(a, b, c, word);
            case "take": return x -> n(x.take(a));
            case "move": return x -> n(x.move(a, b, c));
            case "rename": return x -> n(x.rename(a, word));
            case "close": return x -> x.close();
            case "merge": return x -> x.merge(a, b);
            case "carry": return x -> x.carry(a, b);
            case "back": return x -> x.back(a, b);
            default: return x -> n(x.settle(a, b, c));
        }
    }

    /** The arguments that a call goes through: none, one, two, three, or with a word. */
    private static int[][] arguments(String name) {
        int[] none = {0};
        switch (name) {
            case "grammar": case "first": case "drop": case "close": return new int[][] {none, none, none};
            case "end": case "next": case "begin": case "take": case "rename": return new int[][] {MANY, none, none};
            case "merge": case "carry": case "back": return new int[][] {MANY, MANY, none};
            default: return new int[][] {SOME, SOME, SOME};
        }
    }

    private static boolean isRefused(String name, long answer) {
        return answer == (name.matches("end|begin|drop|take|move|rename|settle") ? 0 : -1);
    }

    private static void all(String state, Supplier<TreeMerge> make, String name) {
        TreeMerge x = make.get();
        TreeMerge twin = make.get();
        boolean merging = name.matches("merge|carry|back");
        String quarrels = Calls.quarrels(twin);
        int[][] args = arguments(name);
        boolean worded = name.equals("put") || name.equals("rename");
        for (int a : args[0]) for (int b : args[1]) for (int c : args[2]) for (long word : worded ? WORDS : new long[] {0}) {
            if (!isRefused(name, call(name, a, b, c, word).applyAsLong(x))) {
                x = make.get();
                continue;
            }
            refused++;
            if (!merging && !Calls.quarrels(x).equals(quarrels)) C.due(state + ": quarrels behind " + name, Calls.quarrels(x), quarrels);
            if (x.count(2) != twin.count(2)) C.due(state + ": numbers behind " + name, x.count(2), twin.count(2));
        }
        C.due(state + ": told behind " + name, told(x), told(twin));
        C.due(state + ": spent behind " + name, spent(x), spent(twin));
    }

    private static void asked(String state, Supplier<TreeMerge> make) {
        TreeMerge x = make.get();
        TreeMerge twin = make.get();
        for (int a : MANY) {
            for (int b : MANY) {
                x.match(a, b);
                x.base(a, b);
                x.node(a, b);
                x.word(a, b);
                x.same(a, b);
                x.print(a, b);
                x.parent(a, b);
                x.from(a, b);
                for (int c = -1; c <= 7; c++) x.of(a, b, c);
            }
            x.quarrel(a);
            x.writer(a);
            x.name(a);
            x.count(a);
            x.fault(a > 0);
            x.breaks();
        }
        C.due(state + ": quarrels behind what is only asked", Calls.quarrels(x), Calls.quarrels(twin));
        C.due(state + ": told behind what is only asked", told(x), told(twin));
        C.due(state + ": spent behind what is only asked", spent(x), spent(twin));
    }

    public static void main(String[] args) {
        C.by("What is refused changes nothing");
        String[] names = {"feed", "end", "grammar", "first", "next", "begin", "drop", "put", "take", "move", "rename", "close",
            "merge", "carry", "back", "settle"};
        Map<String, Integer> times = new LinkedHashMap<>();
        for (Map.Entry<String, Supplier<TreeMerge>> state : states().entrySet()) {
            for (String name : names) {
                int before = refused;
                all(state.getKey(), state.getValue(), name);
                times.merge(name, refused - before, Integer::sum);
            }
            asked(state.getKey(), state.getValue());
        }
        System.out.println("refused: " + times);
        for (String name : names) C.due(name + " was refused at times", times.get(name) > 0, true);
        C.finish("RefusedTest");
    }
}
