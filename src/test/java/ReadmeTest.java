import java.lang.reflect.InvocationTargetException;
import java.net.URI;
import java.net.URL;
import java.net.URLClassLoader;
import java.nio.file.Files;
import java.nio.file.Path;
import java.util.ArrayList;
import java.util.List;
import java.util.Set;
import java.util.TreeSet;
import java.util.regex.MatchResult;
import java.util.regex.Matcher;
import java.util.regex.Pattern;
import java.util.stream.Collectors;
import java.util.stream.Stream;
import javax.tools.JavaCompiler;
import javax.tools.JavaFileObject;
import javax.tools.SimpleJavaFileObject;
import javax.tools.ToolProvider;

/** What README.md says is so: its Java lines answer the numbers that stand behind them, and the tests it names are there. */
public final class ReadmeTest {
    private static final Checks CHECKS = new Checks();
    private static final Pattern BLOCK = Pattern.compile("```java\n(.*?)```", Pattern.DOTALL);
    private static final Pattern ANSWERED = Pattern.compile("(?:int (\\w+) = )?(x\\..*\\));\\s+// (-?\\d+|true|false)(:.*)?");
    private static int lines = 0;

    public static void main(String[] args) throws Exception {
        String page = Files.readString(Path.of("README.md"));
        lines(page);
        tests(page);
        CHECKS.finish();
    }

    /** Called by the lines of the page. */
    public static void due(String line, int got, int want) {
        lines++;
        CHECKS.due("README.md: " + line, got, want);
    }

    public static void due(String line, boolean got, boolean want) {
        lines++;
        CHECKS.due("README.md: " + line, got, want);
    }

    private static void lines(String page) throws Exception {
        StringBuilder members = new StringBuilder();
        StringBuilder body = new StringBuilder();
        int answered = 0;
        for (MatchResult block : BLOCK.matcher(page).results().toList()) {
            if (block.group(1).startsWith("static ")) {
                members.append(block.group(1));
                continue;
            }
            for (String line : block.group(1).split("\n")) {
                Matcher m = ANSWERED.matcher(line);
                boolean isAnswered = m.matches();
                CHECKS.due("a remark without an answer: " + line, line.contains("//") && !isAnswered, false);
                if (isAnswered) {
                    answered++;
                    String name = m.group(1) == null ? m.group(2) : m.group(1);
                    body.append(m.group(1) == null ? "" : "int " + m.group(1) + " = " + m.group(2) + ";\n");
                    body.append("ReadmeTest.due(\"").append(line.trim().replace("\"", "'")).append("\", ").append(name)
                        .append(", ").append(m.group(3)).append(");\n");
                } else {
                    body.append(line).append("\n");
                }
            }
        }
        run("public final class ReadmeCode {\n" + members + "public static void go() {\n" + body + "}\n}\n");
        CHECKS.due("lines with an answer that were run", lines, answered);
        CHECKS.due("the page has no such lines", answered == 0, false);
    }

    private static void run(String source) throws Exception {
        Path out = Files.createTempDirectory("readme");
        JavaFileObject file = new SimpleJavaFileObject(URI.create("string:///ReadmeCode.java"), JavaFileObject.Kind.SOURCE) {
            @Override
            public CharSequence getCharContent(boolean ignoreEncodingErrors) {
                return source;
            }
        };
        JavaCompiler compiler = ToolProvider.getSystemJavaCompiler();
        boolean compiled = compiler.getTask(null, null, null, List.of("-proc:none", "-d", out.toString(), "-cp",
            System.getProperty("java.class.path")), null, List.of(file)).call();
        CHECKS.due("the page's lines compile", compiled, true);
        if (compiled) {
            try (URLClassLoader loader = new URLClassLoader(new URL[] {out.toUri().toURL()})) {
                loader.loadClass("ReadmeCode").getMethod("go").invoke(null);
            } catch (InvocationTargetException e) {
                CHECKS.due("the page's lines throw " + e.getCause(), true, false);
            }
        }
        Files.deleteIfExists(out.resolve("ReadmeCode.class"));
        Files.deleteIfExists(out);
    }

    private static void tests(String page) throws Exception {
        Set<String> named = BLOCK.matcher(page).replaceAll("").lines().flatMap(l -> Pattern.compile("`(\\w+Test)`").matcher(l)
            .results().map(r -> r.group(1))).collect(Collectors.toCollection(TreeSet::new));
        Set<String> there = new TreeSet<>();
        try (Stream<Path> files = Files.list(Path.of("src/test/java"))) {
            files.map(p -> p.getFileName().toString()).filter(n -> n.endsWith("Test.java"))
                .forEach(n -> there.add(n.substring(0, n.length() - ".java".length())));
        }
        List<String> missing = new ArrayList<>(there);
        missing.removeAll(named);
        CHECKS.due("tests that README.md does not name: " + missing, missing.size(), 0);
        List<String> gone = new ArrayList<>(named);
        gone.removeAll(there);
        CHECKS.due("tests that README.md names and that aren't there: " + gone, gone.size(), 0);
        CHECKS.due(".ci/run can be run", Files.isExecutable(Path.of(".ci/run")), true);
        for (String path : new String[] {"src/main/java/ReportedCases.java", "src/test/java/LawTest.java", "../shared/DOC.md",
            "../shared/LANGUAGE.md", "../shared/tests", ".ci/run"}) {
            CHECKS.due("README.md names " + path, page.contains(path), true);
            CHECKS.due(path + " is there", Files.exists(Path.of(path)), true);
        }
    }
}
