import java.io.IOException;
import java.lang.reflect.InvocationTargetException;
import java.lang.reflect.Method;
import java.nio.charset.StandardCharsets;
import java.nio.file.Files;
import java.nio.file.Path;
import java.util.regex.Matcher;
import java.util.regex.Pattern;

/** The examples of ../shared/DOC.md, taken from it as they stand there: each call of each one, on a new object for each. */
public final class ExamplesTest extends Lab {
    private static final Pattern CALL = Pattern.compile("(\\w+)\\(([^)]*)\\) = ([-\\w]+)");

    public static void main(String[] args) throws IOException {
        String document = Files.readString(Path.of("../shared/DOC.md"), StandardCharsets.UTF_8);
        int from = document.indexOf("Examples: each one begins with a new object");
        int to = document.indexOf("Ahead of the calls", from);
        due("the document has examples", from >= 0 && to > from, true);
        String[] examples = document.substring(from, to).replaceAll("```(text)?", "").replaceAll("\\s+", " ").split(" - A | - The ");
        int calls = 0;
        for (int i = 1; i < examples.length; i++) {
            calls += run(i, examples[i]);
        }
        due("examples", examples.length - 1, 4);
        due("their calls", calls, 41);
        end(calls + " calls of the document's examples answer as it says");
    }

    private static int run(int number, String example) {
        TurnFace x = new TurnFace();
        int calls = 0;
        for (Matcher call = CALL.matcher(example); call.find(); calls++) {
            due("example " + number + ", " + call.group(), ask(x, call.group(1), call.group(2)), call.group(3));
        }
        return calls;
    }

    private static Object ask(TurnFace x, String name, String arguments) {
        for (Method method : TurnFace.class.getMethods()) {
            if (method.getName().equals(name)) {
                try {
                    return method.invoke(x, numbersOf(method.getParameterTypes(), arguments));
                } catch (InvocationTargetException | IllegalAccessException e) {
                    return "throws " + e.getCause();
                }
            }
        }
        return "no such call";
    }

    private static Object[] numbersOf(Class<?>[] types, String arguments) {
        String[] texts = arguments.isEmpty() ? new String[0] : arguments.split(", ");
        Object[] numbers = new Object[types.length];
        due("numbers of (" + arguments + ")", texts.length, types.length);
        for (int i = 0; i < types.length; i++) {
            if (types[i] == char.class) {
                numbers[i] = texts[i].charAt(1);
            } else if (types[i] == boolean.class) {
                numbers[i] = Boolean.valueOf(texts[i]);
            } else {
                numbers[i] = types[i] == long.class ? Long.valueOf(texts[i]) : (Object) Integer.valueOf(texts[i]);
            }
        }
        return numbers;
    }
}
