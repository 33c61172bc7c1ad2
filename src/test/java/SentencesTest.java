import java.io.IOException;
import java.nio.file.Files;
import java.nio.file.Path;
import java.util.ArrayList;
import java.util.Arrays;
import java.util.List;
import java.util.regex.Matcher;
import java.util.regex.Pattern;
import java.util.stream.Stream;

/** Whether the tests quote every word that the document promises: then each sentence has its test. */
public final class SentencesTest {
    private static final Due DUE = new Due("SentencesTest");
    private static final Pattern QUOTE = Pattern.compile("\\.sentence\\(((?:\\s*\\+?\\s*\"[^\"]*\")+)\\);");
    private static final Pattern PART = Pattern.compile("\"([^\"]*)\"");

    private final String words = Doc.words();
    private final boolean[] quoted = new boolean[words.length()];

    public static void main(String[] args) throws IOException {
        SentencesTest test = new SentencesTest();
        for (String sentence : test.sentences()) {
            test.mark(sentence);
        }
        test.isQuoted("======== 1 A TEXT is letters", "## The public face");
        test.isQuoted("## Terms", "Ahead of the calls `write`");
        for (int promise = 1; promise <= 24; promise++) {
            test.isQuoted("## Promise " + promise + ":", promise < 24 ? "## Promise " + (promise + 1) : "## Not promised");
        }
        DUE.end();
    }

    private List<String> sentences() throws IOException {
        List<String> found = new ArrayList<>();
        try (Stream<Path> files = Files.list(Path.of("src/test/java"))) {
            for (Path file : files.sorted().toList()) {
                Matcher quote = QUOTE.matcher(Files.readString(file));
                while (quote.find()) {
                    StringBuilder sentence = new StringBuilder();
                    PART.matcher(quote.group(1)).results().forEach(part -> sentence.append(part.group(1)));
                    found.add(sentence.toString());
                }
            }
        }
        return found;
    }

    private void mark(String sentence) {
        for (int at = words.indexOf(sentence); at >= 0; at = words.indexOf(sentence, at + 1)) {
            Arrays.fill(quoted, at, at + sentence.length(), true);
        }
    }

    /** Headings, the form of a call and the marks of parts promise nothing. */
    private void isQuoted(String from, String to) {
        int start = words.indexOf(from);
        int end = words.indexOf(to, start);
        DUE.holds(from + " stands in the document", start >= 0 && end > start);
        StringBuilder left = new StringBuilder();
        for (int at = Math.max(start, 0); at < end; at++) {
            left.append(quoted[at] ? ' ' : words.charAt(at));
        }
        String rest = left.toString().replace("```text", " ").replace("```", " ")
                .replaceFirst("^## (Terms|Promise [^`]*)", " ").replaceAll("`[^`]*`", " ")
                .replaceAll("======== [1-4]", " ").replaceAll("[ .,;:()]+", " ").trim();
        DUE.holds(from + " is quoted, but for [" + rest + "]", rest.isEmpty());
    }
}
