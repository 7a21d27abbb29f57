import java.io.File;
import java.io.IOException;
import java.io.PrintWriter;
import java.lang.reflect.Method;
import java.lang.reflect.Modifier;
import java.net.URL;
import java.net.URLClassLoader;
import java.nio.file.Files;
import java.nio.file.Path;
import java.util.ArrayList;
import java.util.List;
import java.util.Set;
import java.util.TreeSet;
import java.util.regex.Matcher;
import java.util.regex.Pattern;
import java.util.spi.ToolProvider;

/** What README.md says is so: its example, compiled and run line by line, and the names that it lists. */
public final class ReadmeTest {
    private static final Path README = Path.of("README.md");
    private static final Path TESTS = Path.of("src", "test", "java");
    private static final Pattern TOLD = Pattern.compile("(show\\..*\\)); +// (answers|throws) ([\\w.]+): .*");
    private static final int FEWEST_TOLD = 12;

    private ReadmeTest() {
    }

    public static void main(String[] args) throws Exception {
        String readme = Files.readString(README);
        example(blockOf("java", readme));
        calls(readme);
        tests(readme);
        Checks.close("ReadmeTest");
    }

    private static String blockOf(String kind, String readme) {
        Matcher block = Pattern.compile("```" + kind + "\n(.*?)```", Pattern.DOTALL).matcher(readme);
        return block.find() ? block.group(1) : "";
    }

    /** A line that tells an answer or an exception becomes a line that notes what came; the others stay as they are. */
    private static void example(String block) throws Exception {
        StringBuilder code = new StringBuilder("public final class Example {\n");
        code.append("public static void note(java.util.List<Object> told) {\n");
        int lines = 0;
        for (String line : block.split("\n")) {
            Matcher call = TOLD.matcher(line);
            lines += call.matches() ? 1 : 0;
            code.append(call.matches() ? noteOf(call) : line).append('\n');
        }
        Checks.due("the example tells what its calls do", lines >= FEWEST_TOLD, true);
        List<Object> told = compiledAndRun(code.append("} }\n").toString());
        Checks.due("what the example told: call, answer, due answer", told.size(), 3 * lines);
        for (int i = 0; i + 2 < told.size(); i += 3) {
            Checks.due("README.md: " + told.get(i), told.get(i + 1), told.get(i + 2));
        }
    }

    /** Adds the call, what it answers or throws, and what the page says. */
    private static String noteOf(Matcher line) {
        String call = line.group(1);
        String noted = "told.add(\"" + call + "\"); ";
        if (line.group(2).equals("answers")) {
            return noted + "told.add(" + call + "); told.add(" + line.group(3) + ");";
        }
        return noted + "try { told.add(" + call + "); } catch (RuntimeException e) { "
            + "told.add(e.getClass().getSimpleName()); } told.add(\"" + line.group(3) + "\");";
    }

    private static List<Object> compiledAndRun(String code) throws Exception {
        Path folder = Files.createTempDirectory("readme");
        Path source = folder.resolve("Example.java");
        List<Object> told = new ArrayList<>();
        try {
            Files.writeString(source, code);
            PrintWriter out = new PrintWriter(System.out, true);
            int exit = ToolProvider.findFirst("javac").orElseThrow().run(out, out, "-cp",
                System.getProperty("java.class.path"), "-d", folder.toString(), source.toString());
            Checks.due("javac of the example", exit, 0);
            if (exit == 0) {
                run(folder, told);
            }
        } finally {
            Files.deleteIfExists(folder.resolve("Example.class"));
            Files.deleteIfExists(source);
            Files.deleteIfExists(folder);
        }
        return told;
    }

    private static void run(Path folder, List<Object> told) throws Exception {
        try (URLClassLoader loader = new URLClassLoader(new URL[] {folder.toUri().toURL()})) {
            loader.loadClass("Example").getMethod("note", List.class).invoke(null, told);
        }
    }

    private static void calls(String readme) {
        for (Method method : FountainCues.class.getDeclaredMethods()) {
            if (Modifier.isPublic(method.getModifiers())) {
                String name = "`" + method.getName() + "`";
                Checks.due("README.md lists " + name, readme.contains(name), true);
            }
        }
    }

    private static void tests(String readme) {
        Set<String> listed = new TreeSet<>();
        Matcher row = Pattern.compile("(?m)^\\| `(\\w+Test)` \\|").matcher(readme);
        while (row.find()) {
            listed.add(row.group(1));
        }
        Set<String> there = new TreeSet<>();
        for (File file : TESTS.toFile().listFiles()) {
            if (file.getName().endsWith("Test.java")) {
                there.add(file.getName().replace(".java", ""));
            }
        }
        Checks.due("the tests that README.md lists", listed, there);
        for (String path : new String[] {"src/main/java/FountainCues.java", "../shared/DOC.md", "../shared/LANGUAGE.md",
            "../shared/tests", "src/test/java", ".ci/run"}) {
            boolean isSo = readme.contains(path) && Files.exists(Path.of(path));
            Checks.due(path + " is named and is there", isSo, true);
        }
    }
}
