import java.io.IOException;
import java.lang.reflect.Field;
import java.lang.reflect.Method;
import java.lang.reflect.Modifier;
import java.nio.file.Files;
import java.nio.file.Path;
import java.util.Set;
import java.util.TreeSet;
import java.util.regex.Matcher;
import java.util.regex.Pattern;

/** The rules of ../shared/LANGUAGE.md that can be seen in the source or by reflection. */
public final class LanguageTest {
    private static final Path SOURCE = Path.of("src/main/java/TransputerNet.java");
    private static final Set<String> FACE = Set.of("wire", "send", "put", "start", "run", "register",
            "peek", "link", "out");

    public static void main(String[] args) throws IOException {
        face();
        classes();
        words(Files.readString(SOURCE));
        Check.finish();
    }

    private static void face() {
        Class<?> face = TransputerNet.class;
        Check.due("the class is final", Modifier.isFinal(face.getModifiers()), true);
        Set<String> open = new TreeSet<>();
        for (Method method : face.getDeclaredMethods()) {
            boolean isFace = FACE.contains(method.getName());
            Check.due("private or of the face: " + method.getName(),
                    isFace ? Modifier.isPublic(method.getModifiers())
                            : Modifier.isPrivate(method.getModifiers()), true);
            if (isFace) {
                Check.due("named once: " + method.getName(), open.add(method.getName()), true);
            }
        }
        Check.due("all of the face", open.size(), FACE.size());
        Check.due("one constructor", face.getDeclaredConstructors().length, 1);
        for (Field field : face.getDeclaredFields()) {
            Check.due("private, or NONE: " + field.getName(),
                    Modifier.isPrivate(field.getModifiers()) || field.getName().equals("NONE"), true);
        }
    }

    private static void classes() {
        Class<?>[] inside = TransputerNet.class.getDeclaredClasses();
        Check.due("twelve classes at most", inside.length + 1 <= 12, true);
        for (Class<?> each : inside) {
            Check.due("static: " + each, Modifier.isStatic(each.getModifiers()), true);
            Check.due("not public: " + each, Modifier.isPublic(each.getModifiers()), false);
            int fields = 0;
            for (Field field : each.getDeclaredFields()) {
                fields += Modifier.isStatic(field.getModifiers()) ? 0 : 1;
            }
            Check.due("twenty fields at most: " + each, fields <= 20, true);
            for (Method method : each.getDeclaredMethods()) {
                Check.due("no name of the face: " + method, FACE.contains(method.getName()), false);
                Check.due("seven parameters at most", method.getParameterCount() <= 7, true);
            }
        }
    }

    private static void words(String source) {
        String bare = source.replaceAll("(?s)/\\*.*?\\*/", "").replaceAll("//[^\n]*", "");
        String[] refused = {"throw", "throws", "try", "catch", "synchronized", "assert", "import",
            "package", "->", "::", "protected", "Exact", "System", "Random", "Thread", "equals",
            "hashCode", "toString"};
        for (String word : refused) {
            String quoted = Pattern.quote(word);
            String pattern = Character.isLetter(word.charAt(0)) ? "\\b" + quoted + "\\b" : quoted;
            Matcher matcher = Pattern.compile(pattern).matcher(bare);
            Check.due("the source has no " + word, matcher.find(), false);
        }
        Matcher calls = Pattern.compile("\\b(Math|Integer|Long)\\.(\\w+)").matcher(bare);
        while (calls.find()) {
            Check.due("a listed function: " + calls.group(), Set.of("max", "min", "abs", "bitCount")
                    .contains(calls.group(2)), true);
        }
        lengths(bare.split("\n"));
    }

    private static void lengths(String[] lines) {
        String end = "";
        int length = 0;
        for (String line : lines) {
            Matcher head = Pattern.compile("( {4}| {8})(\\w.*\\)) \\{").matcher(line);
            if (head.matches()) {
                end = head.group(1) + "}";
                length = 0;
            }
            length++;
            if (!end.isEmpty() && line.equals(end)) {
                Check.due("sixty lines at most, up to " + line, length <= 60, true);
            }
        }
    }
}
