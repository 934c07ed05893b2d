import java.io.IOException;
import java.nio.charset.StandardCharsets;
import java.nio.file.DirectoryStream;
import java.nio.file.Files;
import java.nio.file.Path;
import java.util.regex.Matcher;
import java.util.regex.Pattern;

/** That no sentence is left out: each word of the document's Terms and promises is in a sentence that a test names. */
public final class SentencesTest {
    private static final Path DOCUMENT = Path.of("../shared/DOC.md");
    private static final Path TESTS = Path.of("src/test/java");
    private static final Pattern NAMED = Pattern.compile("Boundary\\.at\\(\\s*([\\w.]+),\\s*((?:\"(?:[^\"\\\\]|\\\\.)*\"\\s*\\+?\\s*)+)\\)");
    private static final Pattern TEXT = Pattern.compile("\"((?:[^\"\\\\]|\\\\.)*)\"");
    private static final Pattern WORD = Pattern.compile("\\w+");
    /** Headings, and the signature that each promise begins with (FaceTest has these). */
    private static final Pattern NO_SENTENCE = Pattern.compile("(?m)^#.*$|^THE EVENING$|^```\\w*$|^`[^`\\n]*`|^==== \\d\\.(?: A ROUND$)?");

    private static String heading(String promise) {
        if (promise.endsWith("WHAT_IT_IS")) {
            return "What it is";
        }
        return promise.endsWith("TERMS") ? "Terms" : "Promise " + promise + ":";
    }

    private static void cover(String document, boolean[] isCovered, String promise, String sentence) {
        int from = document.indexOf("\n## " + heading(promise));
        int to = document.indexOf("\n## ", from + 1);
        for (int at = document.indexOf(sentence, from); at >= 0 && at < to; at = document.indexOf(sentence, at + 1)) {
            java.util.Arrays.fill(isCovered, at, at + sentence.length(), true);
        }
    }

    private static int coverNamed(String document, boolean[] isCovered, String source) {
        int count = 0;
        Matcher named = NAMED.matcher(source);
        while (named.find()) {
            StringBuilder sentence = new StringBuilder();
            Matcher text = TEXT.matcher(named.group(2));
            while (text.find()) {
                sentence.append(text.group(1));
            }
            cover(document, isCovered, named.group(1), sentence.toString());
            count++;
        }
        return count;
    }

    public static void main(String[] args) throws IOException {
        if (!Files.exists(DOCUMENT)) {
            System.out.println("no document at " + DOCUMENT.toAbsolutePath() + ": sentences are not compared");
            return;
        }
        String document = Files.readString(DOCUMENT, StandardCharsets.UTF_8);
        boolean[] isCovered = new boolean[document.length()];
        Matcher none = NO_SENTENCE.matcher(document);
        while (none.find()) {
            java.util.Arrays.fill(isCovered, none.start(), none.end(), true);
        }
        int count = 0;
        try (DirectoryStream<Path> sources = Files.newDirectoryStream(TESTS, "{Boundary,Reading}*.java")) {
            for (Path source : sources) {
                count += coverNamed(document, isCovered, Files.readString(source, StandardCharsets.UTF_8));
            }
        }
        Check.due("sentences are found", 1, count > 150 ? 1 : 0);
        Matcher word = WORD.matcher(document);
        int end = document.indexOf("\n## Not promised");
        word.region(document.indexOf("\n## Terms\n"), end < 0 ? document.length() : end);
        while (word.find()) {
            String around = document.substring(Math.max(0, word.start() - 40), Math.min(document.length(), word.end() + 40));
            Check.due("a test names the sentence with '" + word.group() + "' in: " + around.replace('\n', ' '), 1,
                isCovered[word.start()] ? 1 : 0);
        }
        Check.end();
    }
}
