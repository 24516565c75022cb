import java.io.ByteArrayInputStream;
import java.io.DataInputStream;
import java.io.IOException;
import java.io.InputStream;
import java.util.ArrayList;
import java.util.List;
import java.util.Map;
import java.util.Set;
import java.util.TreeMap;
import java.util.TreeSet;

/**
 * Rules of LANGUAGE.md that are seen in the compiled classes: how deep calls go (11), which method calls itself (8),
 * what of the library is called (4), that nothing throws or catches (6), and that only what lets an edition come makes
 * objects (12).
 */
public final class DepthTest {
    private static final Calls C = new Calls();
    private static final int MOST = 8;
    /** Methods by "Class.name(types)", each with the own methods that it calls. */
    private static final Map<String, Set<String>> OWN = new TreeMap<>();
    private static final Set<String> LIBRARY = new TreeSet<>();
    /** Methods that make objects or rows, but for constructors. */
    private static final Set<String> MAKERS = new TreeSet<>();
    private static final int ATHROW = 191;
    private static final int WIDE = 196;
    private static final int IINC = 132;
    private static final int TABLESWITCH = 170;
    private static final int LOOKUPSWITCH = 171;
    /** How many bytes follow each instruction from bipush (16) on, but for the switches and wide. */
    private static final Map<Integer, Integer> BEHIND = new TreeMap<>();

    static {
        for (int one : new int[] {16, 18, 188}) BEHIND.put(one, 1);
        for (int op = 21; op <= 25; op++) BEHIND.put(op, 1);
        for (int op = 54; op <= 58; op++) BEHIND.put(op, 1);
        BEHIND.put(169, 1);
        for (int two : new int[] {17, 19, 20, IINC, 187, 189, 192, 193, 198, 199}) BEHIND.put(two, 2);
        for (int op = 153; op <= 168; op++) BEHIND.put(op, 2);
        for (int op = 178; op <= 184; op++) BEHIND.put(op, 2);
        BEHIND.put(197, 3);
        for (int four : new int[] {185, 186, 200, 201}) BEHIND.put(four, 4);
    }

    private static final class Pool {
        final int[] first;
        final int[] second;
        final String[] text;

        Pool(DataInputStream in) throws IOException {
            int size = in.readUnsignedShort();
            first = new int[size];
            second = new int[size];
            text = new String[size];
            for (int i = 1; i < size; i++) {
                int tag = in.readUnsignedByte();
                if (tag == 1) {
                    text[i] = in.readUTF();
                } else if (tag == 5 || tag == 6) {
                    in.readLong();
                    i++;
                } else if (tag == 3 || tag == 4) {
                    in.readInt();
                } else if (tag == 15) {
                    in.readUnsignedByte();
                    in.readUnsignedShort();
                } else {
                    first[i] = in.readUnsignedShort();
                    if (tag != 7 && tag != 8 && tag != 16 && tag != 19 && tag != 20) second[i] = in.readUnsignedShort();
                }
            }
        }

        String method(int i) {
            return text[first[first[i]]] + "." + text[first[second[i]]] + text[second[second[i]]];
        }
    }

    private static void read(String name) throws IOException {
        byte[] all;
        try (InputStream in = DepthTest.class.getResourceAsStream(name + ".class")) {
            all = in.readAllBytes();
        }
        DataInputStream in = new DataInputStream(new ByteArrayInputStream(all));
        in.readInt();
        in.readInt();
        Pool pool = new Pool(in);
        in.readUnsignedShort();
        in.readInt();
        in.skipBytes(2 * in.readUnsignedShort());
        members(in, pool, name, false);
        members(in, pool, name, true);
    }

    private static void members(DataInputStream in, Pool pool, String owner, boolean methods) throws IOException {
        int many = in.readUnsignedShort();
        for (int m = 0; m < many; m++) {
            in.readUnsignedShort();
            String name = owner + "." + pool.text[in.readUnsignedShort()] + pool.text[in.readUnsignedShort()];
            int attributes = in.readUnsignedShort();
            for (int a = 0; a < attributes; a++) {
                String attribute = pool.text[in.readUnsignedShort()];
                byte[] content = new byte[in.readInt()];
                in.readFully(content);
                if (methods && attribute.equals("Code")) code(content, pool, name);
            }
        }
    }

    private static void code(byte[] content, Pool pool, String name) throws IOException {
        DataInputStream in = new DataInputStream(new ByteArrayInputStream(content));
        in.readInt();
        byte[] code = new byte[in.readInt()];
        in.readFully(code);
        C.due(name + " catches", in.readUnsignedShort(), 0);
        Set<String> called = new TreeSet<>();
        OWN.put(name, called);
        for (int at = 0; at < code.length; at += length(code, at)) {
            int op = code[at] & 255;
            boolean makes = op >= 187 && op <= 189 || op == 197;
            if (makes && !name.contains("<init>")) MAKERS.add(name);
            if (op == ATHROW) C.due(name + " throws", true, false);
            if (op >= 182 && op <= 186) {
                String to = pool.method(number(code, at + 1, 2));
                if (to.startsWith("TreeMerge")) called.add(to);
                else if (!to.equals("java/lang/Object.<init>()V")) LIBRARY.add(to);
            }
        }
    }

    private static int number(byte[] code, int at, int bytes) {
        int found = 0;
        for (int i = 0; i < bytes; i++) found = found << 8 | code[at + i] & 255;
        return found;
    }

    private static int length(byte[] code, int at) {
        int op = code[at] & 255;
        int aligned = (at + 4) / 4 * 4;
        if (op == TABLESWITCH) return aligned - at + 12 + 4 * (number(code, aligned + 8, 4) - number(code, aligned + 4, 4) + 1);
        if (op == LOOKUPSWITCH) return aligned - at + 8 + 8 * number(code, aligned + 4, 4);
        if (op == WIDE) return (code[at + 1] & 255) == IINC ? 6 : 4;
        return 1 + BEHIND.getOrDefault(op, 0);
    }

    /** The longest chain of calls from a method on, which counts itself; what calls itself counts once. */
    private static List<String> deepest(String method, List<String> open) {
        List<String> best = new ArrayList<>();
        for (String to : OWN.getOrDefault(method, Set.of())) {
            if (to.equals(method)) continue;
            if (open.contains(to)) {
                C.due(method + " calls " + to + ", which stands open", true, false);
                continue;
            }
            List<String> longer = new ArrayList<>(open);
            longer.add(to);
            List<String> found = deepest(to, longer);
            if (found.size() > best.size()) best = found;
        }
        best.add(0, method);
        return best;
    }

    public static void main(String[] args) throws IOException {
        read("TreeMerge");
        for (Class<?> inside : TreeMerge.class.getDeclaredClasses()) read(inside.getName());
        Set<String> recursive = new TreeSet<>();
        List<String> worst = new ArrayList<>();
        for (String method : OWN.keySet()) {
            if (OWN.get(method).contains(method)) recursive.add(method);
            if (!method.startsWith("TreeMerge.")) continue;
            List<String> chain = deepest(method, new ArrayList<>(List.of(method)));
            C.due("eight deep at most: " + chain, chain.size() <= MOST, true);
            if (chain.size() > worst.size()) worst = chain;
        }
        System.out.println("the deepest calls: " + worst);
        C.due("what calls itself", recursive.toString(), "[TreeMerge$Matcher.search(III)V]");
        C.due("what makes objects", MAKERS.toString(), "[TreeMerge$Editions.add(LTreeMerge$Tree;II)I]");
        LIBRARY.removeAll(Set.of("java/lang/Math.abs(I)I", "java/lang/Math.max(II)I", "java/lang/Math.min(II)I",
                "java/lang/String.charAt(I)C", "java/lang/String.length()I",
                "java/lang/System.arraycopy(Ljava/lang/Object;ILjava/lang/Object;II)V"));
        C.due("of the library", LIBRARY.toString(), "[]");
        C.finish("DepthTest");
    }
}
