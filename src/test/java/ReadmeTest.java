import java.io.IOException;
import java.nio.file.Files;
import java.nio.file.Path;
import java.util.regex.Matcher;
import java.util.regex.Pattern;

/** The calls in README.md's examples answer what stands behind them there. */
public final class ReadmeTest {
    private static final Pattern MADE = Pattern.compile("TransputerNet net = new TransputerNet\\((\\d+)\\);");
    private static final Pattern CALL = Pattern.compile("net\\.(\\w+)\\((.*?)\\); +// (true|false|-?\\d+)\\b.*");
    private static final int EXAMPLES = 2;

    public static void main(String[] args) throws IOException {
        Matcher blocks = Pattern.compile("(?s)```java\n(.*?)```").matcher(Files.readString(Path.of("README.md")));
        int examples = 0;
        while (blocks.find()) {
            examples++;
            example(blocks.group(1).split("\n"));
        }
        Check.due("examples", examples, EXAMPLES);
        Check.finish();
    }

    private static void example(String[] lines) {
        Matcher made = MADE.matcher(lines[0]);
        Check.due("an example begins with a new net", made.matches(), true);
        TransputerNet net = new TransputerNet(Integer.parseInt(made.group(1)));
        for (int k = 1; k < lines.length; k++) {
            Matcher call = CALL.matcher(lines[k]);
            Check.due("a call with its answer: " + lines[k], call.matches(), true);
            Check.due(lines[k], answer(net, call.group(1), numbers(call.group(2))), number(call.group(3)));
        }
    }

    private static long[] numbers(String list) {
        String[] texts = list.split(", ");
        long[] values = new long[texts.length];
        for (int k = 0; k < texts.length; k++) {
            values[k] = number(texts[k]);
        }
        return values;
    }

    private static long number(String text) {
        if (text.equals("true") || text.equals("false")) {
            return text.equals("true") ? 1 : 0;
        }
        return Long.decode(text.replace("L", ""));
    }

    private static long answer(TransputerNet net, String name, long[] of) {
        switch (name) {
            case "wire": return net.wire((int) of[0], (int) of[1], (int) of[2], (int) of[3]) ? 1 : 0;
            case "send": return net.send(of[0], (int) of[1]) ? 1 : 0;
            case "put": return net.put((int) of[0], (int) of[1], of[2]) ? 1 : 0;
            case "start": return net.start((int) of[0], (int) of[1], (int) of[2], (int) of[3]) ? 1 : 0;
            case "run": return net.run((int) of[0]);
            case "register": return net.register((int) of[0], (int) of[1]);
            case "peek": return net.peek((int) of[0], (int) of[1]);
            case "link": return net.link((int) of[0], (int) of[1], (int) of[2]);
            case "out": return net.out((int) of[0]);
            default: throw new IllegalStateException("no such call: " + name);
        }
    }
}
