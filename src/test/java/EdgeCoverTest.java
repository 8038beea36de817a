import java.io.IOException;
import java.lang.reflect.Method;
import java.nio.charset.StandardCharsets;
import java.nio.file.Files;
import java.nio.file.Path;
import java.util.ArrayList;
import java.util.Arrays;
import java.util.HashSet;
import java.util.List;
import java.util.Set;
import java.util.TreeSet;
import java.util.regex.Matcher;
import java.util.regex.Pattern;

/**
 * That each test of a sentence quotes ../shared/DOC.md as it is, that each exception and each range of a promise is quoted,
 * and that of all the terms and promises nothing is left that no test quotes, but for headings and words that join.
 */
public final class EdgeCoverTest extends Lab {
    private static final Class<?>[] ALL = {
        PuzzleEdgesTest.class, GroupEdgesTest.class, GraphEdgesTest.class, WordEdgesTest.class, AttemptEdgesTest.class, ResultEdgesTest.class, FigureEdgesTest.class,
        SentenceTest.class,
    };
    private static final int MOST_WORDS_LEFT = 4;
    private static final int ALL_PROMISES = 0;
    private static final Pattern PROMISE = Pattern.compile("(?ms)^## Promise (\\d+): (.*?)(?=^## )");
    private static final Pattern RANGE_LINE = Pattern.compile("(?m)^- (`\\w+`: .*\\d.*)$");
    private static final Pattern THROWS_LINE = Pattern.compile("(?m)^(Throws `.*)$");

    public static void main(String[] args) throws IOException {
        String document = Files.readString(Path.of("../shared/DOC.md"), StandardCharsets.UTF_8);
        String flowing = document.replaceAll("\\s+", " ");
        Set<String> quoted = new HashSet<>();
        Set<Integer> tested = new TreeSet<>();
        List<Edge> edges = new ArrayList<>();
        for (Class<?> tests : ALL) {
            for (Method method : edgesOf(tests)) {
                Edge edge = method.getAnnotation(Edge.class);
                quoted.add(edge.promise() + " " + edge.says());
                tested.add(edge.promise());
                edges.add(edge);
                due(method.getName() + " quotes '" + edge.says() + "', which", flowing.contains(edge.says()), true);
            }
        }
        int promises = 0;
        for (Matcher promise = PROMISE.matcher(document); promise.find(); promises++) {
            due("a test of promise " + promise.group(1), tested.contains(Integer.valueOf(promise.group(1))), true);
            expectQuoted(quoted, promise, THROWS_LINE);
            expectQuoted(quoted, promise, RANGE_LINE);
            expectNothingLeft("promise " + promise.group(1), promise.group(2), edges, Integer.parseInt(promise.group(1)));
        }
        expectNothingLeft("the terms", termsOf(document), edges, ALL_PROMISES);
        due("promises", promises, 49);
        end(quoted.size() + " sentences of the document have tests");
    }

    /** The examples behind the terms have a test of their own. */
    private static String termsOf(String document) {
        int from = document.indexOf("## Terms");
        int to = document.indexOf("Examples: each one begins with a new object");
        due("the document has terms and examples", from >= 0 && to > from, true);
        return from >= 0 && to > from ? document.substring(from, to) : "";
    }

    /** A name with its arguments, and a line that only names an argument, say nothing by themselves. */
    private static void expectNothingLeft(String where, String section, List<Edge> edges, int promise) {
        String text = section.replaceAll("(?m)^[\\w: ]*\\n+`[^`]*`: ", "").replaceAll("(?m)^- `\\w+`: .*$", "").replaceAll("\\s+", " ");
        boolean[] isQuoted = new boolean[text.length()];
        for (Edge edge : edges) {
            int from = promise == ALL_PROMISES || promise == edge.promise() ? text.indexOf(edge.says()) : -1;
            for (; from >= 0; from = text.indexOf(edge.says(), from + 1)) {
                Arrays.fill(isQuoted, from, from + edge.says().length(), true);
            }
        }
        StringBuilder left = new StringBuilder();
        for (int i = 0; i < text.length(); i++) {
            left.append(isQuoted[i] ? '#' : text.charAt(i));
        }
        for (String piece : left.toString().split("#+")) {
            int words = piece.replaceAll("[^\\w ]", "").strip().split(" +").length;
            due("words of " + where + " that no test quotes: '" + piece + "', few", words <= MOST_WORDS_LEFT, true);
        }
    }

    /** A range may be quoted as the terms have it; then what an argument out of it throws is quoted. */
    private static void expectQuoted(Set<String> quoted, Matcher promise, Pattern lines) {
        for (Matcher line = lines.matcher(promise.group(2)); line.find();) {
            boolean isRangeOfTheTerms = lines == RANGE_LINE && !line.group(1).matches("`\\w+`: -?\\d+ to .*");
            due("a test of '" + line.group(1) + "' in promise " + promise.group(1), isRangeOfTheTerms || quoted.contains(promise.group(1) + " " + line.group(1)), true);
        }
    }
}
