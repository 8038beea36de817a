import java.lang.reflect.Field;
import java.lang.reflect.Method;
import java.lang.reflect.Modifier;
import java.nio.charset.StandardCharsets;
import java.nio.file.Files;
import java.nio.file.Path;
import java.util.HashSet;
import java.util.List;
import java.util.Set;
import java.util.TreeSet;
import java.util.regex.Matcher;
import java.util.regex.Pattern;

/** Looks for what ../shared/LANGUAGE.md rules out, as far as the text and the compiled class show it by themselves. */
public final class LanguageTest {
    private static final String[] RULED_OUT = {
        "->", "::", "\\bfinally\\b", "\\bsynchronized\\b", "\\bassert\\b", "\\btry\\b", "\\bcatch\\b", "\\bvolatile\\b",
        "static \\{", "\\.equals\\(", "\\.hashCode\\(", "\\.toString\\(", "Exact\\(", "\\bSystem\\.(?!arraycopy)", "\\bThread\\b",
        "\\bRandom\\b", "\\bvar\\b", "\\byield\\b", "MAX_VALUE", "MIN_VALUE", "while \\(true\\)", "for \\(;;\\)", "\" \\+", "\\+ \"",
    };
    private static final Set<String> LIBRARY = Set.of("Arrays.fill", "Math.min", "Math.max", "Integer.compare", "Integer.bitCount");
    private static int wrong;

    public static void main(String[] args) throws Exception {
        String text = Files.readString(Path.of("src/main/java/TurnFace.java"), StandardCharsets.UTF_8);
        String code = text.replaceAll("(?s)/\\*.*?\\*/", "").replaceAll("//[^\n]*", "");
        for (String pattern : RULED_OUT) {
            hold("no " + pattern, !Pattern.compile(pattern).matcher(code).find());
        }
        hold("signs up to 127", code.chars().allMatch(sign -> sign < 128));
        hold("imports", Set.of("java.util.Arrays", "java.util.NoSuchElementException").containsAll(found(code, "import ([\\w.]+);")));
        hold("library", LIBRARY.containsAll(found(code, "\\b((?:Arrays|Math|Integer|Long|List|String|Character)\\.\\w+)")));
        checkFace(code);
        checkClasses();
        checkLengths(code);
        System.out.println(wrong == 0 ? "the rules looked for are kept" : wrong + " rules are broken");
        if (wrong != 0) {
            System.exit(1);
        }
    }

    private static void hold(String rule, boolean isKept) {
        if (!isKept) {
            wrong++;
            System.out.println("broken: " + rule);
        }
    }

    private static Set<String> found(String code, String pattern) {
        Set<String> result = new TreeSet<>();
        Matcher matcher = Pattern.compile(pattern).matcher(code);
        while (matcher.find()) {
            result.add(matcher.group(1));
        }
        return result;
    }

    /** The face of the document, word for word, and no private method with a name of it. */
    private static void checkFace(String code) throws Exception {
        List<String> document = Files.readAllLines(Path.of("../shared/DOC.md"), StandardCharsets.UTF_8);
        Set<String> names = new HashSet<>();
        for (String line : document) {
            if (line.startsWith("    public ")) {
                String head = line.strip().substring(0, line.strip().length() - 1);
                hold("face: " + head, code.contains("    " + head + " {"));
                names.add(head.replaceAll("\\(.*", "").replaceAll(".* ", ""));
            }
        }
        hold("48 methods and the constructor", names.size() == 49);
        for (Method method : TurnFace.class.getDeclaredMethods()) {
            boolean isPrivate = Modifier.isPrivate(method.getModifiers());
            hold("visible method " + method, isPrivate != names.contains(method.getName()));
        }
        for (Class<?> inside : TurnFace.class.getDeclaredClasses()) {
            for (Method method : inside.getDeclaredMethods()) {
                hold("name of the face inside: " + method, !names.contains(method.getName()));
            }
        }
    }

    private static void checkClasses() {
        checkFields(TurnFace.class);
        for (Field field : TurnFace.class.getDeclaredFields()) {
            hold("private field " + field, Modifier.isPrivate(field.getModifiers()));
        }
        Class<?>[] inside = TurnFace.class.getDeclaredClasses();
        hold("twelve classes", inside.length < 12);
        for (Class<?> one : inside) {
            hold("static class " + one, Modifier.isStatic(one.getModifiers()) && !Modifier.isPublic(one.getModifiers()));
            checkFields(one);
        }
    }

    private static void checkFields(Class<?> one) {
        int count = 0;
        for (Field field : one.getDeclaredFields()) {
            boolean isStatic = Modifier.isStatic(field.getModifiers());
            hold("final static " + field, !isStatic || Modifier.isFinal(field.getModifiers()));
            count += isStatic ? 0 : 1;
        }
        hold("twenty fields in " + one, count <= 20);
    }

    /** Sixty lines a method, seven parameters; a method's head is a line that ends with '{' at its class's own depth. */
    private static void checkLengths(String code) {
        String[] lines = code.split("\n");
        int start = -1;
        String end = "";
        for (int i = 0; i < lines.length; i++) {
            if (start < 0 && lines[i].matches(" {4,8}[\\w].*\\(.*\\{") && !lines[i].contains(" class ")) {
                start = i;
                end = lines[i].replaceAll("\\S.*", "") + "}";
                hold("parameters: " + lines[i].strip(), lines[i].replaceAll("\\).*", "").split(",").length <= 7);
            } else if (start >= 0 && lines[i].equals(end)) {
                hold("length: " + lines[start].strip(), i - start < 60);
                start = -1;
            }
        }
    }
}
