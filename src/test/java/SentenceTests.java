import java.io.IOException;
import java.nio.file.Files;
import java.nio.file.Path;
import java.util.Arrays;
import java.util.List;
import java.util.regex.Matcher;
import java.util.regex.Pattern;
import java.util.stream.Collectors;
import java.util.stream.Stream;

/** Whether each sentence of the document's terms and promises is quoted by a test; run from the project's folder. */
public final class SentenceTests {
    private static final Pattern QUOTE = Pattern.compile("\\bsentence\\(((?:\\s*\\+?\\s*\"(?:[^\"\\\\]|\\\\.)*\")+)\\)");
    private static final Pattern PART = Pattern.compile("\"((?:[^\"\\\\]|\\\\.)*)\"");

    // headings, the heads of promises, and what stands ahead of a term's sentences
    private static final String HEADS = "## (Terms|Promise \\d+: [A-Za-z ]+?) (?=I\\.|`|\\||$)|`int \\w+\\([^)]*\\)`:|\\b[IV]+\\.|```(text)?";

    private static List<Path> tests() throws IOException {
        try (Stream<Path> files = Files.list(Path.of("src/test/java"))) {
            return files.filter(f -> f.toString().endsWith("Tests.java")).collect(Collectors.toList());
        }
    }

    private static boolean[] quoted(String document) throws IOException {
        boolean[] quoted = new boolean[document.length()];
        for (Path test : tests()) {
            Matcher m = QUOTE.matcher(Files.readString(test));
            while (m.find()) {
                StringBuilder sentence = new StringBuilder();
                Matcher part = PART.matcher(m.group(1));
                while (part.find()) {
                    sentence.append(part.group(1));
                }
                String text = Trial.squeeze(sentence.toString());
                for (int at = document.indexOf(text); at >= 0; at = document.indexOf(text, at + 1)) {
                    Arrays.fill(quoted, at, at + text.length(), true);
                }
            }
        }
        return quoted;
    }

    public static void main(String[] args) throws IOException {
        String all = Trial.squeeze(Files.readString(Path.of("../shared/DOC.md")));
        String document = all.substring(all.indexOf("## Terms"), all.indexOf("## Not promised"));
        boolean[] quoted = quoted(document);
        StringBuilder left = new StringBuilder();
        for (int i = 0; i < document.length(); i++) {
            left.append(quoted[i] ? '\n' : document.charAt(i));
        }
        String unquoted = left.toString().replaceAll("\n+", " | ").replaceAll(HEADS, "").replaceAll("[\\s|);.]+", " ").trim();
        if (!unquoted.isEmpty()) {
            System.out.println("no test quotes: " + unquoted);
            System.exit(1);
        }
        System.out.println("each sentence is quoted by a test");
    }
}
