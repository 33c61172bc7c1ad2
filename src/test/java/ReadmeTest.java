import java.io.IOException;
import java.lang.reflect.Method;
import java.lang.reflect.Modifier;
import java.nio.file.Files;
import java.nio.file.Path;
import java.util.Arrays;
import java.util.Map;
import java.util.regex.Matcher;
import java.util.regex.Pattern;

/** Whether README.md tells the truth: its example answers what it says, and it tells of every call. */
public final class ReadmeTest {
    private static final Due DUE = new Due("ReadmeTest");
    private static final Pattern CODE = Pattern.compile("(?s)```java\n(.*?)```");
    private static final Pattern TEXT = Pattern.compile("String text = \"([^\"]*)\";");
    private static final Pattern ASKED = Pattern.compile("x\\.(\\w+)\\(([-0-9, ]*)\\); +// ([-\\w]+)[:;] .*");
    private static final Map<String, Integer> WORDS = Map.of("BAD", CostChoices.BAD, "NO", CostChoices.NO,
            "FULL", CostChoices.FULL, "NONE", CostChoices.NONE, "NEVER", CostChoices.NEVER);

    public static void main(String[] args) throws IOException {
        String page = Files.readString(Path.of("README.md"));
        example(page);
        everyCall(page);
        DUE.end();
    }

    private static void example(String page) {
        Matcher code = CODE.matcher(page);
        DUE.holds("README.md has an example", code.find());
        CostChoices x = new CostChoices();
        for (String line : code.group(1).split("\n")) {
            Matcher text = TEXT.matcher(line);
            Matcher asked = ASKED.matcher(line);
            if (text.matches()) {
                Due.writeOn(x, text.group(1));
            } else if (asked.matches()) {
                DUE.is(line, answer(x, asked.group(1), asked.group(2)), due(asked.group(3)));
            } else {
                DUE.holds(line + " has an answer", !line.contains("//"));
            }
        }
    }

    private static int answer(CostChoices x, String name, String numbers) {
        int[] told = numbers.isEmpty() ? new int[0]
                : Arrays.stream(numbers.split(", ")).mapToInt(Integer::parseInt).toArray();
        for (Calls.Call call : Calls.ALL) {
            if (call.name.equals(name) && call.takes.length == told.length) {
                return call.on(x, told);
            }
        }
        throw new IllegalStateException("README.md calls what there is not: " + name + "(" + numbers + ")");
    }

    private static int due(String word) {
        return WORDS.containsKey(word) ? WORDS.get(word) : Integer.parseInt(word);
    }

    private static void everyCall(String page) {
        for (Method method : CostChoices.class.getDeclaredMethods()) {
            if (Modifier.isPublic(method.getModifiers())) {
                Matcher row = Pattern.compile("\\| `" + method.getName() + "\\(([^)]*)\\)` \\|").matcher(page);
                boolean told = row.find();
                DUE.holds(method.getName() + " is told in README.md", told);
                int names = !told || row.group(1).isEmpty() ? 0 : row.group(1).split(", ").length;
                DUE.is("numbers of " + method.getName() + " in README.md", names, method.getParameterCount());
            }
        }
    }
}
