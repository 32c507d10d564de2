import java.io.IOException;
import java.nio.file.Files;
import java.nio.file.Path;
import java.util.regex.Matcher;
import java.util.regex.Pattern;

/** What of ../shared/LANGUAGE.md can be seen in the program's text. */
final class RulesTest {
    private static final Due due = new Due("RulesTest");
    private static final String FACE = " status feed load fault many counts page slot version entry txn knows sees versions trail event"
        + " begin commit abort insert update delete await prune vacuum look found repack set mark back"
        + " without ring blocks holder holds gains best reads most ";

    public static void main(String[] args) throws IOException {
        String source = Files.readString(Path.of(System.getProperty("rowpruner.source", "src/main/java/RowPruner.java")));
        String code = source.replaceAll("(?s)/\\*.*?\\*/", "").replaceAll("//[^\n]*", "").replaceAll("\"[^\"\n]*\"", "\"\"");
        String[] forbidden = {"throw", "try", "catch", "synchronized", "assert", "import", "package", "protected", "instanceof",
            "hashCode", "equals", "toString", "System.nanoTime", "Thread", "Random", "yield", "native", "volatile", "transient"};
        for (String word : forbidden) due.is("the word " + word, count(code, "\\b" + Pattern.quote(word) + "\\b"), 0);
        due.is("lambdas, method references", count(code, "->|::"), 0);
        due.is("while (true), endless for", count(code, "while \\(true\\)|for \\(;;\\)"), 0);
        due.is("texts joined by +", count(code, "\"\\s*\\+|\\+\\s*\""), 0);
        due.is("signs above 127", count(source, "[^\\x00-\\x7f]"), 0);
        due.is("statics that aren't final", count(code, "\\bstatic (?!final |int |boolean |void |String )"), 0);
        due.is("static fields that aren't final", count(code, "\\bstatic (?!final )\\w+ \\w+( =|;)"), 0);
        due.is("classes", count(code, "\\bclass \\w") <= 12 ? 1 : 0, 1);
        publicMembers(code);
        methods(code);
        due.end();
    }

    private static int count(String code, String what) {
        Matcher m = Pattern.compile(what).matcher(code);
        int many = 0;
        while (m.find()) many++;
        return many;
    }

    private static void publicMembers(String code) {
        Matcher m = Pattern.compile("\\bpublic ([^({;=]*?)(\\w+)\\s*[({;=]").matcher(code);
        int many = 0;
        while (m.find()) {
            String name = m.group(2);
            boolean known = FACE.contains(" " + name + " ") || name.equals("RowPruner") || name.equals("NONE");
            due.is("public " + name, known ? 1 : 0, 1);
            many++;
        }
        due.is("public members: class, constant, constructor, 40 methods", many, 3 + FACE.trim().split(" ").length);
    }

    private static void methods(String code) {
        Matcher m = Pattern.compile("\n( +)((?:public |private |static |final )*)(int|long|boolean|void|String|Slot) (\\w+)\\(([^)]*)\\) \\{").matcher(code);
        while (m.find()) {
            String name = m.group(4);
            if (!m.group(2).contains("public")) due.is("a face's name for " + name, FACE.contains(" " + name + " ") ? 1 : 0, 0);
            due.is("parameters of " + name, m.group(5).split(",").length <= 7 ? 1 : 0, 1);
            int end = code.indexOf("\n" + m.group(1) + "}", m.end());
            due.is("lines of " + name, count(code.substring(m.start(), end), "\n") <= 60 ? 1 : 0, 1);
        }
    }
}
