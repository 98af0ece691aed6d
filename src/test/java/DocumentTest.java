import java.io.IOException;
import java.nio.file.Files;
import java.nio.file.Path;
import java.util.ArrayList;
import java.util.Arrays;
import java.util.List;
import java.util.regex.Matcher;
import java.util.regex.Pattern;
import java.util.stream.Stream;

/** The tests of edges are about the document's own words, and about all of them, from "Terms" to the last promise. */
public final class DocumentTest {
    private static final Path DOCUMENT = Path.of("../shared/DOC.md");
    private static final Pattern SAYS = Pattern.compile("\\bsays\\(((?:\\s*\\+?\\s*\"[^\"]*\")+)\\);");

    private DocumentTest() { }

    public static void main(String[] args) throws IOException {
        Check check = new Check("DocumentTest");
        if (!Files.isReadable(DOCUMENT)) {
            System.out.println("DocumentTest: there is no " + DOCUMENT + " to compare with");
            return;
        }
        String document = Files.readString(DOCUMENT);
        String terms = document.substring(document.indexOf("## Terms"), document.indexOf("## Not promised"));
        String words = terms.replaceAll("(?m)^(##.*|```.*|==== \\d\\.)", "").replaceAll("(?m)^`[^`]*`:", "")
            .replaceAll("==== \\d\\.", "").replaceAll("\\s+", " ");
        String all = document.replaceAll("\\s+", " ");
        boolean[] told = new boolean[words.length()];
        for (String quote : quotes()) {
            check.due("the document says \"" + quote + "\"", all.contains(quote), true);
            for (int at = words.indexOf(quote); at >= 0; at = words.indexOf(quote, at + 1)) {
                Arrays.fill(told, at, at + quote.length(), true);
            }
        }
        StringBuilder untold = new StringBuilder();
        for (int i = 0; i < told.length; i++) {
            untold.append(told[i] ? ' ' : words.charAt(i));
        }
        check.due("words without a test", untold.toString().replaceAll("\\s+", " ").trim(), "");
        check.end();
    }

    private static List<String> quotes() throws IOException {
        List<String> quotes = new ArrayList<>();
        try (Stream<Path> tests = Files.list(Path.of("src/test/java"))) {
            for (Path test : tests.filter(p -> p.getFileName().toString().startsWith("Edge")).sorted().toList()) {
                Matcher m = SAYS.matcher(Files.readString(test));
                while (m.find()) {
                    quotes.add(m.group(1).replaceAll("\"\\s*\\+\\s*\"", "").replaceAll("^\\s*\"|\"\\s*$", ""));
                }
            }
        }
        return quotes;
    }
}
