import java.io.IOException;
import java.nio.file.Files;
import java.nio.file.Path;
import java.util.ArrayList;
import java.util.Arrays;
import java.util.List;
import java.util.regex.Matcher;
import java.util.regex.Pattern;

/** The example of README.md answers what it says there. */
public final class ReadmeTest {
    private static final Pattern LINE = Pattern.compile("forge\\.(\\w+)\\((.*)\\); +// (-?\\w+)(:?).*");

    public static void main(String[] args) throws IOException {
        PolicyForge forge = new PolicyForge();
        List<String> calls = new ArrayList<>();
        for (String line : Files.readAllLines(Path.of("README.md"))) {
            Matcher m = LINE.matcher(line);
            if (m.matches()) {
                calls.add(m.group(1));
                String due = m.group(4).isEmpty() ? "nothing" : m.group(3);
                Due.is(line, due, () -> "" + answer(forge, m.group(1), numbers(m.group(2))));
            }
        }
        Due.is("the calls of the example", List.of("entity", "set", "declare", "conforms", "text", "text", "text",
                "text", "policy", "check", "holds", "ask", "told", "ask", "told"), () -> calls);
        Due.end("ReadmeTest");
    }

    /** The arguments as numbers, true being 1. */
    private static long[] numbers(String arguments) {
        return Arrays.stream(arguments.split(", ")).mapToLong(ReadmeTest::number).toArray();
    }

    private static long number(String argument) {
        return argument.equals("true") ? 1 : Long.decode(argument.replace("L", ""));
    }

    private static Object answer(PolicyForge forge, String name, long[] n) {
        int[] i = Arrays.stream(n).mapToInt(one -> (int) one).toArray();
        switch (name) {
            case "entity":
                return forge.entity(i[0], i[1]);
            case "set":
                return forge.set(i[0], i[1], i[2], i[3]);
            case "declare":
                forge.declare(i[0], i[1], i[2], i[3], i[4] == 1);
                return "nothing";
            case "conforms":
                return forge.conforms(i[0]);
            case "text":
                return forge.text(n[0]);
            case "policy":
                return forge.policy(i[0]);
            case "check":
                return forge.check(i[0]);
            case "holds":
                return forge.holds(i[0], i[1], i[2], i[3]);
            case "ask":
                return forge.ask(i[0], i[1], i[2]);
            default:
                return forge.told(i[0]);
        }
    }
}
