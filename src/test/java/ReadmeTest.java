import java.net.URL;
import java.net.URLClassLoader;
import java.nio.charset.StandardCharsets;
import java.nio.file.Files;
import java.nio.file.Path;
import java.util.ArrayList;
import java.util.List;
import java.util.regex.Matcher;
import java.util.regex.Pattern;
import javax.tools.ToolProvider;

/** What README.md shows as an example compiles as it stands there and is answered as it says. */
public final class ReadmeTest {
    private static final Pattern BLOCK = Pattern.compile("(?s)```java\n(.*?)```");
    private static final Pattern ANSWER = Pattern.compile("(?:int|long) (\\w+) = x\\..*;\\s+// (-?\\d+)\\b.*");
    private static final Pattern STATEMENT = Pattern.compile("(?m)^\\| `(\\w)` +\\| `(\\w+;)` +\\|");

    private static final List<String> lines = new ArrayList<>();
    private static final List<Long> wanted = new ArrayList<>();

    public static void main(String[] args) throws Exception {
        String given = System.getenv("HOISTS_README");
        String readme = Files.readString(Path.of(given == null ? "README.md" : given), StandardCharsets.UTF_8);
        List<Long> got = answers(program(readme));
        Due.due(0, "README: how many examples are answered", got.size(), wanted.size());
        for (int i = 0; i < wanted.size() && i < got.size(); i++) {
            Due.due(0, "README: " + lines.get(i), got.get(i), wanted.get(i));
        }
        Due.due(0, "README shows 25 answers at least", wanted.size() >= 25 ? 1 : 0, 1);
        statements(readme);
        Due.end();
    }

    /** Each block of the README as a method that keeps the answers which the block shows. */
    private static String program(String readme) {
        StringBuilder methods = new StringBuilder();
        StringBuilder calls = new StringBuilder();
        Matcher block = BLOCK.matcher(readme);
        for (int i = 0; block.find(); i++) {
            calls.append("block").append(i).append("(got);\n");
            methods.append("static void block").append(i).append("(List<Long> got) {\n");
            for (String line : block.group(1).split("\n")) {
                methods.append(line).append('\n').append(keeping(line));
            }
            methods.append("}\n");
        }
        return "import java.util.*;\npublic final class Shown {\npublic static List<Long> answers() {\n"
                + "List<Long> got = new ArrayList<>();\n" + calls + "return got;\n}\n" + methods + "}\n";
    }

    private static String keeping(String line) {
        Matcher answer = ANSWER.matcher(line);
        if (!answer.matches()) {
            Due.due(0, "README: a line with an answer that is not held: " + line,
                    line.contains("//") && !line.contains("x.letter(") ? 1 : 0, 0);
            return "";
        }
        lines.add(line);
        wanted.add(Long.parseLong(answer.group(2)));
        return "got.add((long) " + answer.group(1) + ");\n";
    }

    @SuppressWarnings("unchecked")
    private static List<Long> answers(String source) throws Exception {
        Path made = Files.createTempDirectory("shown");
        Path file = made.resolve("Shown.java");
        Path code = made.resolve("Shown.class");
        try {
            Files.writeString(file, source);
            int failed = ToolProvider.getSystemJavaCompiler().run(null, null, null, "-classpath",
                    System.getProperty("java.class.path"), "-d", made.toString(), file.toString());
            Due.due(0, "README's examples compile", failed, 0);
            if (failed != 0) {
                return new ArrayList<>();
            }
            URL[] where = {made.toUri().toURL()};
            try (URLClassLoader loader = new URLClassLoader(where, ReadmeTest.class.getClassLoader())) {
                return (List<Long>) loader.loadClass("Shown").getMethod("answers").invoke(null);
            }
        } finally {
            Files.deleteIfExists(file);
            Files.deleteIfExists(code);
            Files.deleteIfExists(made);
        }
    }

    /** Each STATEMENT of the table is one that a HOIST may tell where there is a THING. */
    private static void statements(String readme) {
        int seen = 0;
        Matcher row = STATEMENT.matcher(readme);
        while (row.find()) {
            seen++;
            String text = row.group(2);
            Due.due(3, "README: the first letter of " + text, text.charAt(0), row.group(1).charAt(0));
            Due.due(3, "README: " + text, Due.tell(Due.told("th50;"), text), 1);
        }
        Due.due(3, "README's table of STATEMENTS", seen, 6);
    }
}
