import java.io.IOException;
import java.nio.file.Files;
import java.nio.file.Path;

/** What the tests have in common: calls with their due answers, and texts said in words. */
final class Calls {
    private static final Path DOCUMENT = Path.of("..", "shared", "DOC.md");

    private int wrong;
    private int all;
    private String sentence = "";
    private String document;

    /** What follows is due by these words, which must stand in the document as they are here. */
    void by(String words) {
        sentence = "by '" + words + "': ";
        if (document == null) document = document();
        if (!document.isEmpty()) due("the words stand in the document", document.contains(words), true);
    }

    private static String document() {
        try {
            return Files.exists(DOCUMENT) ? Files.readString(DOCUMENT).replaceAll("\\s+", " ") : "";
        } catch (IOException e) {
            return "";
        }
    }

    void due(String call, long got, long want) {
        all++;
        if (got != want) {
            wrong++;
            System.out.println(sentence + call + " answered " + got + ", due is " + want);
        }
    }

    void due(String call, boolean got, boolean want) {
        due(call, got ? 1 : 0, want ? 1 : 0);
    }

    void due(String call, String got, String want) {
        all++;
        if (!got.equals(want)) {
            wrong++;
            System.out.println(sentence + call + " answered " + got + ", due is " + want);
        }
    }

    void finish(String test) {
        System.out.println(test + ": " + (all - wrong) + " answers as due, " + wrong + " not");
        if (wrong != 0) System.exit(1);
    }

    /** The 20 bytes from a place on as five numbers, blanks behind the end. */
    static int[] five(String s, int from) {
        int[] found = new int[5];
        for (int i = 0; i < 20; i++) {
            int sign = from + i < s.length() ? s.charAt(from + i) : ' ';
            found[i / 4] = found[i / 4] << 8 | sign;
        }
        return found;
    }

    /** The text is s alone. */
    static void say(TreeMerge x, String s) {
        x.end(0);
        for (int i = 0; i < s.length(); i += 20) {
            int[] five = five(s, i);
            x.feed(five[0], five[1], five[2], five[3], five[4]);
        }
        if (!x.end(s.length())) {
            System.out.println("the text could not be said: " + s);
            System.exit(1);
        }
    }

    static TreeMerge with(String grammar) {
        TreeMerge x = new TreeMerge();
        say(x, grammar);
        if (x.grammar() < 1) {
            System.out.println("no grammar: " + grammar);
            System.exit(1);
        }
        return x;
    }

    static int first(TreeMerge x, String tree) {
        say(x, tree);
        return x.first();
    }

    static int next(TreeMerge x, int parent, String tree) {
        say(x, tree);
        return x.next(parent);
    }

    static String printed(TreeMerge x, int edition) {
        StringBuilder s = new StringBuilder();
        int bytes = x.print(edition, -1);
        for (int k = 0; k < bytes; k++) s.append((char) x.print(edition, k));
        return s.toString();
    }

    /** The numbers of an edition's nodes in their order. */
    static String numbers(TreeMerge x, int edition) {
        StringBuilder s = new StringBuilder();
        int all = x.node(edition, -1);
        for (int k = 0; k < all; k++) s.append(k == 0 ? "" : " ").append(x.node(edition, k));
        return s.toString();
    }

    static String quarrels(TreeMerge x) {
        StringBuilder s = new StringBuilder();
        int all = x.quarrel(-1);
        for (int k = 0; k < all; k++) s.append(k == 0 ? "" : " ").append(x.quarrel(k));
        return s.toString();
    }

    static long word(String s) {
        long found = 0;
        for (int i = 0; i < s.length(); i++) found = found << 8 | s.charAt(i);
        return found;
    }

    /** The children of a node in an edition (12: the draft), by their places. */
    static String children(TreeMerge x, int edition, int node) {
        StringBuilder s = new StringBuilder();
        for (int place = 0; place < x.of(edition, node, 3); place++) {
            for (int n = 0; n < x.count(2); n++) {
                if (x.of(edition, n, 1) == node && x.of(edition, n, 2) == place) s.append(place == 0 ? "" : " ").append(n);
            }
        }
        return s.toString();
    }

    /**
     * A draft on an edition, changed as said and closed: "r3a" node 3 renamed a, "t3" taken, "m3 1 0" moved under 1
     * at place 0, "p1 0 2x" put under 1 at place 0 of kind 2 with the word x.
     */
    static int edit(TreeMerge x, int edition, String... changes) {
        boolean done = x.begin(edition);
        for (String c : changes) done &= change(x, c);
        int come = x.close();
        if (!done || come < 0) {
            System.out.println("could not be edited: " + String.join(", ", changes));
            System.exit(1);
        }
        return come;
    }

    static boolean change(TreeMerge x, String c) {
        String[] part = c.substring(1).split(" ");
        switch (c.charAt(0)) {
            case 'r':
                int letters = part[0].replaceAll("[0-9]", "").length();
                String word = part[0].substring(part[0].length() - letters);
                return x.rename(number(part[0].substring(0, part[0].length() - letters)), word(word));
            case 't':
                return x.take(number(part[0]));
            case 'm':
                return x.move(number(part[0]), number(part[1]), number(part[2]));
            default:
                return x.put(number(part[0]), number(part[1]), part[2].charAt(0) - '0', word(part[2].substring(1))) >= 0;
        }
    }

    private static int number(String s) {
        return Integer.parseInt(s);
    }
}
