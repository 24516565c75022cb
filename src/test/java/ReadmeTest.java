import java.io.File;
import java.lang.reflect.Method;
import java.lang.reflect.Modifier;
import java.net.URL;
import java.net.URLClassLoader;
import java.nio.file.Files;
import java.nio.file.Path;
import java.util.ArrayList;
import java.util.List;
import java.util.regex.Matcher;
import java.util.regex.Pattern;
import javax.tools.JavaCompiler;
import javax.tools.ToolProvider;

/**
 * The example in README.md: its calls, with the answers that README.md gives for them. The blocks of Java are
 * taken out of the file, compiled and run, so that the test follows what is written there.
 */
public final class ReadmeTest {
    private static final Pattern BLOCK = Pattern.compile("```java\n(.*?)```", Pattern.DOTALL);
    /** A statement, its value with or without a variable, and the answer at the beginning of the comment. */
    private static final Pattern LINE =
            Pattern.compile("(?:(?:int|long|boolean|String) \\w+ = )?(.+);\\s*// (-?\\d+|true|false|\"[^\"]*\")(?:\\W.*)?");

    private static final Calls C = new Calls();
    private static final StringBuilder HELPERS = new StringBuilder();
    private static final StringBuilder STEPS = new StringBuilder();
    private static final List<String> CALLS = new ArrayList<>();
    private static final List<String> DUE = new ArrayList<>();

    private static void takeLine(String line) {
        if (line.isBlank() || line.startsWith("//")) return;
        if (line.equals("TreeMerge x = new TreeMerge();")) {
            STEPS.append(line).append('\n');
            return;
        }
        Matcher m = LINE.matcher(line);
        C.due("each line has an answer: " + line, m.matches(), true);
        if (!m.matches()) return;
        STEPS.append("answers.add(String.valueOf(").append(m.group(1)).append("));\n");
        CALLS.add(m.group(1));
        DUE.add(m.group(2).replace("\"", ""));
    }

    private static String source() {
        return "public final class ReadmeExample {\n" + HELPERS
                + "public static java.util.List<String> answers() {\n"
                + "java.util.List<String> answers = new java.util.ArrayList<>();\n" + STEPS + "return answers;\n}\n}\n";
    }

    private static List<?> answers(Path dir) throws Exception {
        Path file = dir.resolve("ReadmeExample.java");
        Files.writeString(file, source());
        JavaCompiler compiler = ToolProvider.getSystemJavaCompiler();
        int bad = compiler.run(null, null, null, "-cp", System.getProperty("java.class.path"), "-d", dir.toString(),
                file.toString());
        C.due("the example compiles", bad, 0);
        if (bad != 0) return List.of();
        try (URLClassLoader loader = new URLClassLoader(new URL[] {dir.toUri().toURL()})) {
            return (List<?>) loader.loadClass("ReadmeExample").getMethod("answers").invoke(null);
        }
    }

    private static void remove(Path dir) {
        File[] files = dir.toFile().listFiles();
        for (File f : files == null ? new File[0] : files) f.delete();
        dir.toFile().delete();
    }

    public static void main(String[] args) throws Exception {
        String readme = Files.readString(Path.of("README.md"));
        Matcher blocks = BLOCK.matcher(readme);
        while (blocks.find()) {
            if (blocks.group(1).startsWith("static ")) {
                HELPERS.append(blocks.group(1));
            } else {
                blocks.group(1).lines().forEach(ReadmeTest::takeLine);
            }
        }
        Path dir = Files.createTempDirectory("readme");
        List<?> answers;
        try {
            answers = answers(dir);
        } finally {
            remove(dir);
        }
        C.due("as many answers as lines", answers.size(), CALLS.size());
        for (int i = 0; i < answers.size(); i++) C.due(CALLS.get(i), String.valueOf(answers.get(i)), DUE.get(i));
        for (Method m : TreeMerge.class.getDeclaredMethods()) {
            if (!Modifier.isPublic(m.getModifiers())) continue;
            C.due("the example uses " + m.getName(), (HELPERS + source()).contains("x." + m.getName() + "("), true);
            C.due("README.md tells of " + m.getName(), readme.contains("`" + m.getName() + "`"), true);
        }
        C.due("README.md tells how to run the tests", readme.contains(".ci/run"), true);
        for (File f : new File("src/test/java").listFiles()) {
            String name = f.getName().replace(".java", "");
            if (name.endsWith("Test")) C.due("README.md tells of " + name, readme.contains("`" + name + "`"), true);
        }
        C.finish("ReadmeTest");
    }
}
