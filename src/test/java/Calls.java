/** What the tests have in common: calls with their due answers, and texts said in words. */
final class Calls {
    private int wrong;
    private int all;

    void due(String call, long got, long want) {
        all++;
        if (got != want) {
            wrong++;
            System.out.println(call + " answered " + got + ", due is " + want);
        }
    }

    void due(String call, boolean got, boolean want) {
        due(call, got ? 1 : 0, want ? 1 : 0);
    }

    void due(String call, String got, String want) {
        all++;
        if (!got.equals(want)) {
            wrong++;
            System.out.println(call + " answered " + got + ", due is " + want);
        }
    }

    void finish(String test) {
        System.out.println(test + ": " + (all - wrong) + " answers as due, " + wrong + " not");
        if (wrong != 0) System.exit(1);
    }

    /** The 20 bytes from a place on as five numbers, blanks behind the end. */
    static int[] five(String s, int from) {
        int[] found = new int[5];
        for (int i = 0; i < 20; i++) {
            int sign = from + i < s.length() ? s.charAt(from + i) : ' ';
            found[i / 4] = found[i / 4] << 8 | sign;
        }
        return found;
    }

    /** The text is s alone. */
    static void say(TreeMerge x, String s) {
        x.end(0);
        for (int i = 0; i < s.length(); i += 20) {
            int[] five = five(s, i);
            x.feed(five[0], five[1], five[2], five[3], five[4]);
        }
        if (!x.end(s.length())) {
            System.out.println("the text could not be said: " + s);
            System.exit(1);
        }
    }

    static TreeMerge with(String grammar) {
        TreeMerge x = new TreeMerge();
        say(x, grammar);
        if (x.grammar() < 1) {
            System.out.println("no grammar: " + grammar);
            System.exit(1);
        }
        return x;
    }

    static int first(TreeMerge x, String tree) {
        say(x, tree);
        return x.first();
    }

    static int next(TreeMerge x, int parent, String tree) {
        say(x, tree);
        return x.next(parent);
    }

    static String printed(TreeMerge x, int edition) {
        StringBuilder s = new StringBuilder();
        int bytes = x.print(edition, -1);
        for (int k = 0; k < bytes; k++) s.append((char) x.print(edition, k));
        return s.toString();
    }

    /** The numbers of an edition's nodes in their order. */
    static String numbers(TreeMerge x, int edition) {
        StringBuilder s = new StringBuilder();
        int all = x.node(edition, -1);
        for (int k = 0; k < all; k++) s.append(k == 0 ? "" : " ").append(x.node(edition, k));
        return s.toString();
    }

    static String quarrels(TreeMerge x) {
        StringBuilder s = new StringBuilder();
        int all = x.quarrel(-1);
        for (int k = 0; k < all; k++) s.append(k == 0 ? "" : " ").append(x.quarrel(k));
        return s.toString();
    }

    static long word(String s) {
        long found = 0;
        for (int i = 0; i < s.length(); i++) found = found << 8 | s.charAt(i);
        return found;
    }
}
