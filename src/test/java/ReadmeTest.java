import java.io.IOException;
import java.net.URL;
import java.net.URLClassLoader;
import java.nio.file.Files;
import java.nio.file.Path;
import java.util.ArrayList;
import java.util.List;
import java.util.function.Supplier;
import java.util.regex.Matcher;
import java.util.regex.Pattern;
import java.util.stream.Stream;
import javax.tools.JavaCompiler;
import javax.tools.ToolProvider;

/**
 * Runs the code that README.md shows, all blocks as one program, and holds each line against the
 * answer that stands behind it; looks up the findings and the tests that the page names.
 */
public final class ReadmeTest {
    private static final Checks CHECKS = new Checks("ReadmeTest");
    private static final Pattern BLOCK = Pattern.compile("(?m)^```java\n((?:(?!```).*\n)*)```$");
    private static final Pattern ANSWERED = Pattern.compile(
        "(?:(?:int|long|boolean) (\\w+) = )?(.+);\\s+// (-?\\d+|true|false)(?:: .*)?");
    private static final String NAME = "ReadmeCode";

    private final String page;
    private final List<String> lines = new ArrayList<>();
    private final List<String> due = new ArrayList<>();
    private final StringBuilder body = new StringBuilder();

    private ReadmeTest(String page) {
        this.page = page;
    }

    /** A shown line becomes one that notes its answer; a call that shows none must stand in a loop. */
    private void translate(String line) {
        Matcher m = ANSWERED.matcher(line);
        if (!m.matches()) {
            CHECKS.due("an answer is shown for " + line, line.startsWith(" ") || !line.contains("parish."));
            body.append(line).append('\n');
            return;
        }
        lines.add(line);
        due.add(m.group(3));
        if (m.group(1) == null) {
            body.append("answers.add(String.valueOf(").append(m.group(2)).append("));\n");
        } else {
            body.append(line).append("\nanswers.add(String.valueOf(").append(m.group(1)).append("));\n");
        }
    }

    private String program() {
        Matcher m = BLOCK.matcher(page);
        while (m.find()) {
            for (String line : m.group(1).split("\n")) {
                translate(line);
            }
        }
        return "import java.util.*;\npublic final class " + NAME
            + " implements java.util.function.Supplier<List<String>> {\npublic List<String> get() {\n"
            + "List<String> answers = new ArrayList<>();\n" + body + "return answers;\n}\n}\n";
    }

    private static List<String> run(String program) throws IOException, ReflectiveOperationException {
        Path folder = Files.createTempDirectory("readme");
        Path source = folder.resolve(NAME + ".java");
        try {
            Files.writeString(source, program);
            JavaCompiler compiler = ToolProvider.getSystemJavaCompiler();
            int code = compiler.run(null, null, null, "-cp", System.getProperty("java.class.path"),
                "-d", folder.toString(), source.toString());
            CHECKS.due("the shown code compiles:\n" + program, code, 0);
            return code == 0 ? load(folder) : List.of();
        } finally {
            Files.deleteIfExists(folder.resolve(NAME + ".class"));
            Files.deleteIfExists(source);
            Files.deleteIfExists(folder);
        }
    }

    private static List<String> load(Path folder) throws IOException, ReflectiveOperationException {
        List<String> answers = new ArrayList<>();
        try (URLClassLoader loader = new URLClassLoader(new URL[] {folder.toUri().toURL()})) {
            Object made = loader.loadClass(NAME).getDeclaredConstructor().newInstance();
            for (Object answer : (List<?>) ((Supplier<?>) made).get()) {
                answers.add(String.valueOf(answer));
            }
        }
        return answers;
    }

    private void checkCode() throws IOException, ReflectiveOperationException {
        List<String> answers = run(program());
        CHECKS.due("the page shows answers", !lines.isEmpty());
        CHECKS.due("each shown line answers", answers.size(), lines.size());
        for (int i = 0; i < Math.min(answers.size(), lines.size()); i++) {
            CHECKS.due("'" + lines.get(i) + "', which answers " + answers.get(i), answers.get(i).equals(due.get(i)));
        }
        CHECKS.due("the page makes an object", body.indexOf("new BucketGift()") >= 0);
    }

    private void checkFindings(String doc) {
        String terms = doc.substring(doc.indexOf("FINDINGS are answers"), doc.indexOf("(in longs, too)"));
        Matcher m = Pattern.compile("(-\\d{10}) ([A-Z]+)").matcher(terms);
        int many = 0;
        while (m.find()) {
            many++;
            CHECKS.due("the page has a row for " + m.group(),
                Pattern.compile("(?m)^\\| " + m.group(1) + " +\\| " + m.group(2) + " +\\|").matcher(page).find());
        }
        CHECKS.due("the document has seven findings", many, 7);
    }

    private void checkTests() throws IOException {
        CHECKS.due("the page says how to run the tests", page.contains("```sh\n.ci/run\n```"));
        try (Stream<Path> files = Files.list(Path.of("src/test/java"))) {
            for (Path file : files.toList()) {
                String name = file.getFileName().toString();
                CHECKS.due("the page names " + file, !name.endsWith("Test.java") || page.contains("`" + file + "`"));
            }
        }
        Matcher m = Pattern.compile("src/(?:test|main)/java/\\w+\\.java").matcher(page);
        while (m.find()) {
            CHECKS.due("there is " + m.group(), Files.exists(Path.of(m.group())));
        }
    }

    public static void main(String[] args) throws IOException, ReflectiveOperationException {
        ReadmeTest test = new ReadmeTest(Files.readString(Path.of("README.md")));
        test.checkCode();
        test.checkFindings(Files.readString(Path.of("../shared/DOC.md")));
        test.checkTests();
        CHECKS.end();
    }
}
