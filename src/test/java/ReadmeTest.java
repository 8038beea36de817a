import java.io.IOException;
import java.io.StringWriter;
import java.net.URL;
import java.net.URLClassLoader;
import java.nio.charset.StandardCharsets;
import java.nio.file.Files;
import java.nio.file.Path;
import java.util.ArrayList;
import java.util.List;
import java.util.Set;
import java.util.TreeSet;
import java.util.regex.Matcher;
import java.util.regex.Pattern;
import java.util.stream.Stream;
import javax.tools.JavaCompiler;
import javax.tools.ToolProvider;

/** That README.md says what the class does: its example is compiled and run, row by row, and has every call of the face. */
public final class ReadmeTest extends Lab {
    private static final Path PAGE = Path.of("README.md");
    private static final Path DOCUMENT = Path.of("../shared/DOC.md");
    private static final Path TESTS = Path.of("src/test/java");
    private static final Path OUT = Path.of("build/readme");
    private static final String NEW_OBJECT = "TurnFace lab = new TurnFace();";
    private static final Pattern BLOCK = Pattern.compile("(?ms)^```java\n(.*?)^```$");
    private static final Pattern ROW = Pattern.compile("(?:int (\\w+) = )?((?:lab|new TurnFace\\(\\))\\.\\w+\\([^;]*\\)); +// (?:= |(throws) )([-.\\w]+)(?:: \\S.*)?");
    private static final Pattern PART = Pattern.compile("Ahead of the calls ([^.]*?) the interface says: ---- (\\w+)\\.");
    private static final Pattern PUBLIC = Pattern.compile("(?m)^    public (?!TurnFace)[\\w]+ (\\w+)\\(");

    /** A row of the example: what it calls, what it says that this answers, and the number that the answer is kept as, if any. */
    private record Row(String call, String due, String kept) { }

    public static void main(String[] args) throws Exception {
        String page = Files.readString(PAGE, StandardCharsets.UTF_8);
        String document = Files.readString(DOCUMENT, StandardCharsets.UTF_8);
        List<Row> rows = rowsOf(page);
        String[] answers = run(rows);
        for (int i = 0; i < rows.size(); i++) {
            due("README row " + (i + 1) + ", " + rows.get(i).call(), answers[i], rows.get(i).due());
        }
        checkParts(page, document);
        checkTestsNamed(page);
        end(rows.size() + " rows of README.md answer as it says");
    }

    /** Every row must say what it answers, but for the one that makes the object, which is the first. */
    private static List<Row> rowsOf(String page) {
        List<Row> rows = new ArrayList<>();
        boolean isMade = false;
        for (Matcher block = BLOCK.matcher(page); block.find();) {
            for (String line : block.group(1).split("\n")) {
                Matcher row = ROW.matcher(line);
                if (line.equals(NEW_OBJECT)) {
                    due("README makes its object again", isMade, false);
                    isMade = true;
                } else if (row.matches()) {
                    due("README has an object for " + line, isMade, true);
                    String due = row.group(3) == null ? row.group(4) : "throws." + row.group(4);
                    rows.add(new Row(row.group(2), due, row.group(1)));
                } else {
                    due("README says what it answers: " + line, false, true);
                }
            }
        }
        return rows;
    }

    private static String textOf(List<Row> rows) {
        StringBuilder text = new StringBuilder();
        text.append("public final class ReadmeRun {\n    public static String[] run() {\n");
        text.append("        String[] answers = new String[").append(rows.size()).append("];\n        ").append(NEW_OBJECT).append('\n');
        for (int i = 0; i < rows.size(); i++) {
            String answer = "answers[" + i + "] = ";
            Row row = rows.get(i);
            if (row.kept() != null) {
                text.append("        int ").append(row.kept()).append(" = ").append(row.call()).append("; ");
                text.append(answer).append("String.valueOf(").append(row.kept()).append(");\n");
            } else {
                text.append("        try { ").append(answer).append("String.valueOf(").append(row.call()).append("); } ");
                text.append("catch (RuntimeException e) { ").append(answer).append("\"throws.\" + e.getClass().getSimpleName(); }\n");
            }
        }
        return text.append("        return answers;\n    }\n}\n").toString();
    }

    private static String[] run(List<Row> rows) throws Exception {
        Files.createDirectories(OUT);
        Path source = OUT.resolve("ReadmeRun.java");
        Files.writeString(source, textOf(rows), StandardCharsets.UTF_8);
        compile(source);
        try (URLClassLoader loader = new URLClassLoader(new URL[] {OUT.toUri().toURL()}, ReadmeTest.class.getClassLoader())) {
            return (String[]) loader.loadClass("ReadmeRun").getMethod("run").invoke(null);
        }
    }

    private static void compile(Path source) throws IOException {
        JavaCompiler compiler = ToolProvider.getSystemJavaCompiler();
        StringWriter said = new StringWriter();
        List<String> options = List.of("-d", OUT.toString(), "-cp", System.getProperty("java.class.path"));
        boolean isFine = compiler.getTask(said, null, null, options, null, compiler.getStandardFileManager(null, null, null).getJavaFileObjects(source)).call();
        due("README compiles: " + said, isFine, true);
    }

    /** For each part that the document's interface has: a heading of its name, and below it each of the part's calls. */
    private static void checkParts(String page, String document) {
        Set<String> told = new TreeSet<>();
        for (Matcher part = PART.matcher(document); part.find();) {
            int from = page.indexOf("\n### " + part.group(2) + "\n");
            due("README has a part of " + part.group(2), from >= 0, true);
            int to = from < 0 ? -1 : page.indexOf("\n### ", from + 1);
            String section = from < 0 || to < 0 ? "" : page.substring(from, to);
            for (String call : part.group(1).replaceAll("[`\\s]", "").split(",")) {
                told.add(call);
                due("README calls " + call + " under " + part.group(2), section.contains("lab." + call + "("), true);
            }
        }
        Set<String> face = new TreeSet<>();
        for (Matcher method = PUBLIC.matcher(document); method.find();) {
            face.add(method.group(1));
        }
        due("calls of the parts", told, face);
        due("calls of the face", face.size(), 48);
    }

    private static void checkTestsNamed(String page) throws IOException {
        Set<String> there = new TreeSet<>();
        try (Stream<Path> files = Files.list(TESTS)) {
            files.map(file -> file.getFileName().toString()).filter(name -> name.endsWith("Test.java")).forEach(name -> there.add(name.replace(".java", "")));
        }
        Set<String> named = new TreeSet<>();
        for (Matcher name = Pattern.compile("`(\\w+Test)`").matcher(page); name.find();) {
            named.add(name.group(1));
        }
        due("tests that README names", named, there);
        due("README says how to run them", page.contains("```sh\n.ci/run\n```") && Files.isExecutable(Path.of(".ci/run")), true);
    }
}
