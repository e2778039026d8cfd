import java.io.IOException;
import java.lang.reflect.Method;
import java.lang.reflect.Modifier;
import java.nio.file.Files;
import java.nio.file.Path;
import java.util.Arrays;
import java.util.regex.Matcher;
import java.util.regex.Pattern;

/** What README.md says of the calls holds: its example is made call by call. */
public final class ReadmeTest {
    /** "house.name(numbers);  // answer" in README.md; the first of the numbers may be the pump. */
    private static final Pattern SAID =
            Pattern.compile("house\\.(\\w+)\\(([^)]*)\\);\\s*// (-?\\d+|true|false)\\b");
    private static final Checks CHECKS = new Checks();

    public static void main(String[] args) throws IOException {
        String text = Files.readString(Path.of("README.md"));
        exampleHolds(text);
        namesEveryCall(text);
        CHECKS.end("ReadmeTest");
    }

    private static void exampleHolds(String text) {
        HeatMachines house = new HeatMachines();
        Matcher said = SAID.matcher(text);
        int found = 0;
        while (said.find()) {
            found++;
            Call call = new Call(said.group(1), numbers(said.group(2)));
            CHECKS.is("README: " + call, call.on(house), Long.toString(number(said.group(3))));
        }
        CHECKS.is("every line of the example is made", found, text.split("house\\.").length - 1);
    }

    private static int[] numbers(String words) {
        return words.isEmpty() ? new int[0]
                : Arrays.stream(words.split(", ")).mapToInt(ReadmeTest::number).toArray();
    }

    private static int number(String word) {
        return switch (word) {
            case "pump", "false" -> 0;
            case "true" -> 1;
            default -> Integer.parseInt(word);
        };
    }

    private static void namesEveryCall(String text) {
        for (Method method : HeatMachines.class.getDeclaredMethods()) {
            if (Modifier.isPublic(method.getModifiers())) {
                String name = method.getName();
                CHECKS.is("the example has " + name, text.contains("house." + name + "("), true);
                CHECKS.is("the table has " + name, text.contains("| `" + name + "("), true);
            }
        }
    }
}
