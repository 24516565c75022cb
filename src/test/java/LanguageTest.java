import java.io.IOException;
import java.lang.reflect.Constructor;
import java.lang.reflect.Field;
import java.lang.reflect.Method;
import java.lang.reflect.Modifier;
import java.nio.file.Files;
import java.nio.file.Path;
import java.util.Arrays;
import java.util.Set;
import java.util.TreeSet;
import java.util.regex.Matcher;
import java.util.regex.Pattern;

/** What of LANGUAGE.md can be seen in the source and in the compiled class; the first argument is the source. */
public final class LanguageTest {
    private static final Calls C = new Calls();
    private static final String[] FACE = {
        "int feed(int,int,int,int,int)", "boolean end(int)", "int fault(boolean)", "int grammar()", "int breaks()",
        "int first()", "int match(int,int)", "int next(int)", "boolean begin(int)", "boolean drop()",
        "int put(int,int,int,long)", "boolean take(int)", "boolean move(int,int,int)", "boolean rename(int,long)",
        "int close()", "int base(int,int)", "int merge(int,int)", "int carry(int,int)", "int back(int,int)",
        "int quarrel(int)", "boolean settle(int,int,int)", "int unsettle()", "int node(int,int)",
        "int of(int,int,int)", "long word(int,int)", "int writer(int)", "int name(int)", "boolean same(int,int)",
        "int print(int,int)", "int parent(int,int)", "boolean from(int,int)", "int count(int)",
    };

    private static String told(Method m) {
        StringBuilder s = new StringBuilder(m.getReturnType().getSimpleName() + " " + m.getName() + "(");
        for (int i = 0; i < m.getParameterCount(); i++) {
            s.append(i == 0 ? "" : ",").append(m.getParameterTypes()[i].getSimpleName());
        }
        return s + ")";
    }

    private static void face() {
        Set<String> open = new TreeSet<>();
        Set<String> names = new TreeSet<>();
        for (Method m : TreeMerge.class.getDeclaredMethods()) {
            if (Modifier.isPublic(m.getModifiers())) {
                open.add(told(m));
                names.add(m.getName());
            } else {
                C.due(m.getName() + " is private", Modifier.isPrivate(m.getModifiers()), true);
            }
        }
        C.due("the methods", open.toString(), new TreeSet<>(Arrays.asList(FACE)).toString());
        for (Method m : TreeMerge.class.getDeclaredMethods()) {
            if (Modifier.isPrivate(m.getModifiers())) C.due(m.getName() + " is taken", names.contains(m.getName()), false);
        }
        for (Class<?> inside : TreeMerge.class.getDeclaredClasses()) {
            for (Method m : inside.getDeclaredMethods()) C.due(m.getName() + " is taken", names.contains(m.getName()), false);
        }
        for (Constructor<?> c : TreeMerge.class.getDeclaredConstructors()) {
            C.due("the constructor", Modifier.isPublic(c.getModifiers()) && c.getParameterCount() == 0, true);
        }
        for (Field f : TreeMerge.class.getDeclaredFields()) {
            boolean none = f.getName().equals("NONE");
            C.due(f.getName(), none ? Modifier.isPublic(f.getModifiers()) : Modifier.isPrivate(f.getModifiers()), true);
        }
        C.due("final", Modifier.isFinal(TreeMerge.class.getModifiers()), true);
    }

    private static void classes() {
        Class<?>[] inside = TreeMerge.class.getDeclaredClasses();
        C.due("at most twelve classes", inside.length + 1 <= 12, true);
        for (Class<?> c : inside) {
            C.due(c.getName() + " is static", Modifier.isStatic(c.getModifiers()), true);
            fields(c);
        }
        fields(TreeMerge.class);
    }

    private static void fields(Class<?> c) {
        int own = 0;
        for (Field f : c.getDeclaredFields()) {
            if (Modifier.isStatic(f.getModifiers())) {
                C.due(f.getName() + " is final", Modifier.isFinal(f.getModifiers()), true);
            } else {
                own++;
            }
        }
        C.due(c.getName() + " has at most twenty fields", own <= 20, true);
        for (Method m : c.getDeclaredMethods()) {
            C.due(m.getName() + " has at most seven parameters", m.getParameterCount() <= 7, true);
        }
    }

    private static void source(String file) throws IOException {
        String all = Files.readString(Path.of(file));
        for (int i = 0; i < all.length(); i++) {
            if (all.charAt(i) > 127) C.due("a sign above 127 at " + i, all.charAt(i), 127);
        }
        String code = all.replaceAll("(?s)/\\*.*?\\*/", "").replaceAll("//[^\n]*", "");
        String[] ruledOut = {"throw", "throws", "try", "catch", "synchronized", "assert", "import", "Object", "hashCode",
            "toString", "volatile", "native", "package", "protected"};
        for (String word : ruledOut) {
            C.due("'" + word + "' stands", Pattern.compile("\\b" + word + "\\b").matcher(code).find(), false);
        }
        for (String sign : new String[] {"->", "::", "Exact("}) C.due("'" + sign + "' stands", code.contains(sign), false);
        Matcher library = Pattern.compile("\\b(System|Math|Arrays|Integer|Long|String)\\.([a-zA-Z]+)").matcher(code);
        Set<String> used = new TreeSet<>();
        while (library.find()) used.add(library.group());
        used.removeAll(Set.of("System.arraycopy", "Math.max", "Math.min", "Math.abs"));
        C.due("of the library", used.toString(), "[]");
        lengths(code);
    }

    /** Methods begin with four or eight blanks and end with a brace behind as many. */
    private static void lengths(String code) {
        String[] lines = code.split("\n");
        for (int i = 0; i < lines.length; i++) {
            Matcher m = Pattern.compile("^((    ){1,2})[A-Za-z].*\\) \\{$").matcher(lines[i]);
            if (!m.matches()) continue;
            int end = i;
            while (!lines[end].equals(m.group(1) + "}")) end++;
            C.due(lines[i].trim() + " has at most sixty lines", end - i <= 60, true);
        }
    }

    public static void main(String[] args) throws IOException {
        face();
        classes();
        source(args.length > 0 ? args[0] : "src/main/java/TreeMerge.java");
        C.finish("LanguageTest");
    }
}
