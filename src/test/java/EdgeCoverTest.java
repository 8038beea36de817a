import java.io.IOException;
import java.lang.reflect.Method;
import java.nio.charset.StandardCharsets;
import java.nio.file.Files;
import java.nio.file.Path;
import java.util.HashSet;
import java.util.Set;
import java.util.TreeSet;
import java.util.regex.Matcher;
import java.util.regex.Pattern;

/** That each boundary's test quotes ../shared/DOC.md as it is, and that each exception and each range of a promise has one. */
public final class EdgeCoverTest extends Lab {
    private static final Class<?>[] ALL = {
        PuzzleEdgesTest.class, GroupEdgesTest.class, GraphEdgesTest.class, WordEdgesTest.class, AttemptEdgesTest.class, ResultEdgesTest.class, FigureEdgesTest.class,
    };
    private static final Pattern PROMISE = Pattern.compile("(?ms)^## Promise (\\d+): (.*?)(?=^## )");
    private static final Pattern RANGE_LINE = Pattern.compile("(?m)^- (`\\w+`: .*\\d.*)$");
    private static final Pattern THROWS_LINE = Pattern.compile("(?m)^(Throws `.*)$");

    public static void main(String[] args) throws IOException {
        String document = Files.readString(Path.of("../shared/DOC.md"), StandardCharsets.UTF_8);
        String flowing = document.replaceAll("\\s+", " ");
        Set<String> quoted = new HashSet<>();
        Set<Integer> tested = new TreeSet<>();
        for (Class<?> tests : ALL) {
            for (Method method : edgesOf(tests)) {
                Edge edge = method.getAnnotation(Edge.class);
                quoted.add(edge.promise() + " " + edge.says());
                tested.add(edge.promise());
                due(method.getName() + " quotes '" + edge.says() + "', which", flowing.contains(edge.says()), true);
            }
        }
        int promises = 0;
        for (Matcher promise = PROMISE.matcher(document); promise.find(); promises++) {
            due("a test of promise " + promise.group(1), tested.contains(Integer.valueOf(promise.group(1))), true);
            expectQuoted(quoted, promise, THROWS_LINE);
            expectQuoted(quoted, promise, RANGE_LINE);
        }
        due("promises", promises, 49);
        end(quoted.size() + " sentences of the document have tests");
    }

    /** A range may be quoted as the terms have it; then what an argument out of it throws is quoted. */
    private static void expectQuoted(Set<String> quoted, Matcher promise, Pattern lines) {
        for (Matcher line = lines.matcher(promise.group(2)); line.find();) {
            boolean isRangeOfTheTerms = lines == RANGE_LINE && !line.group(1).matches("`\\w+`: -?\\d+ to .*");
            due("a test of '" + line.group(1) + "' in promise " + promise.group(1), isRangeOfTheTerms || quoted.contains(promise.group(1) + " " + line.group(1)), true);
        }
    }
}
