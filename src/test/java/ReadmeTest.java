import java.io.IOException;
import java.net.URL;
import java.net.URLClassLoader;
import java.nio.file.Files;
import java.nio.file.Path;
import java.util.ArrayList;
import java.util.Arrays;
import java.util.List;
import java.util.Set;
import java.util.TreeSet;
import java.util.regex.Matcher;
import java.util.regex.Pattern;
import java.util.stream.Collectors;
import java.util.stream.Stream;
import javax.tools.ToolProvider;

/** What README.md shows as answers is what the program answers, and it names the tests that there are. */
final class ReadmeTest {
    private static final Due due = new Due("ReadmeTest");
    /** A statement, and behind // the answer that is shown: int a = b.c(d);  // 7: why */
    private static final Pattern SHOWN = Pattern.compile("\\s*(?:int (\\w+) = )?(store\\.\\w+\\(.*\\));\\s*// (-?\\d+)(?!\\w).*");

    public static void main(String[] args) throws IOException, ReflectiveOperationException {
        Path root = Path.of(System.getProperty("rowpruner.root", "."));
        String readme = Files.readString(root.resolve("README.md"));
        answers(blocks(readme));
        tests(readme, root.resolve("src/test/java"));
        due.is("the command is there", Files.isExecutable(root.resolve(".ci/run")) ? 1 : 0, 1);
        due.end();
    }

    private static List<String> blocks(String readme) {
        List<String> lines = new ArrayList<>();
        boolean inside = false;
        for (String line : readme.split("\n")) {
            if (line.startsWith("```")) inside = line.equals("```java");
            else if (inside) lines.add(line);
        }
        return lines;
    }

    /** All that is shown is one run: each call that an answer stands behind is noted. */
    private static void answers(List<String> lines) throws IOException, ReflectiveOperationException {
        StringBuilder code = new StringBuilder("public class Shown {\n  public static int[] run() {\n"
            + "    int[] told = new int[" + lines.size() + "];\n    int k = 0;\n");
        List<String> calls = new ArrayList<>();
        List<Integer> wanted = new ArrayList<>();
        for (String line : lines) {
            Matcher m = SHOWN.matcher(line);
            if (!m.matches()) {
                due.is("an answer is shown that is not looked at: " + line, line.contains("//") ? 1 : 0, 0);
                code.append(line).append('\n');
                continue;
            }
            code.append("told[k++] = ").append(m.group(2)).append(";\n");
            if (m.group(1) != null) code.append("int ").append(m.group(1)).append(" = told[k - 1];\n");
            calls.add(m.group(2));
            wanted.add(Integer.parseInt(m.group(3)));
        }
        int[] told = run(code.append("    return told;\n  }\n}\n").toString());
        for (int i = 0; i < calls.size(); i++) due.is(calls.get(i), told[i], wanted.get(i));
        due.is("answers are shown", calls.size() > 30 ? 1 : 0, 1);
    }

    private static int[] run(String code) throws IOException, ReflectiveOperationException {
        Path room = Files.createTempDirectory("readme");
        try {
            Path file = Files.writeString(room.resolve("Shown.java"), code);
            int failed = ToolProvider.getSystemJavaCompiler().run(null, null, null,
                "-cp", System.getProperty("java.class.path"), "-d", room.toString(), file.toString());
            due.is("what is shown compiles", failed, 0);
            if (failed != 0) return new int[code.length()];
            try (URLClassLoader shown = new URLClassLoader(new URL[] {room.toUri().toURL()})) {
                return (int[]) shown.loadClass("Shown").getMethod("run").invoke(null);
            }
        } finally {
            for (String name : new String[] {"Shown.java", "Shown.class"}) Files.deleteIfExists(room.resolve(name));
            Files.delete(room);
        }
    }

    private static void tests(String readme, Path where) throws IOException {
        Set<String> named = new TreeSet<>();
        Matcher m = Pattern.compile("`(\\w+Test)`").matcher(readme);
        while (m.find()) named.add(m.group(1));
        try (Stream<Path> files = Files.list(where)) {
            Set<String> there = files.map(file -> file.getFileName().toString()).filter(name -> name.endsWith("Test.java"))
                .map(name -> name.substring(0, name.length() - 5)).collect(Collectors.toCollection(TreeSet::new));
            due.is("tests named " + named + ", tests there " + there, named.equals(there) ? 1 : 0, 1);
        }
        for (String word : Arrays.asList("512", "NONE", "status()", "feed()", "load(n)", "fault(0)", "mark()", "back()", ".ci/run")) {
            due.is("told: " + word, readme.contains(word) ? 1 : 0, 1);
        }
    }
}
