import java.io.IOException;
import java.nio.file.Files;
import java.nio.file.Path;
import java.util.List;
import java.util.regex.Matcher;
import java.util.regex.Pattern;

/** Rules of LANGUAGE.md that can be seen in the source. */
public final class LanguageTest {
    private static final String[] FORBIDDEN = {"->", "::", "\\btry\\b", "\\bcatch\\b", "\\bfinally\\b", "\\bassert\\b",
        "\\bsynchronized\\b", "\\bpackage\\b", "Exact\\b", "Long\\.MAX", "Integer\\.M", "\\bSystem\\.(?!arraycopy)",
        "\\bdouble\\b", "\\bfloat\\b", "\\bObject\\b", "\\bthis\\b", "\\bprotected\\b", "\\bnew (?!int\\[|long\\[|boolean\\[|"
        + "Orders\\[MOST_ORDERS\\]|[A-Z][A-Za-z]*\\(\\)|[A-Za-z]*Exception\\(\")", "static \\{", "\\[\\]\\[\\]"};

    private LanguageTest() { }

    public static void main(String[] args) throws IOException {
        Check check = new Check("LanguageTest");
        List<String> lines = Files.readAllLines(Path.of("src/main/java/SandRails.java"));
        String source = String.join("\n", lines);
        String code = source.replaceAll("(?s)/\\*.*?\\*/", "").replaceAll("//[^\n]*", "");
        for (String rule : FORBIDDEN) {
            Matcher m = Pattern.compile(rule).matcher(code);
            check.due("a use of " + rule, m.find() ? m.group() : "none", "none");
        }
        check.due("signs are 10 and 32 to 126", source.chars().allMatch(c -> c == 10 || c >= 32 && c < 127), true);
        Matcher imports = Pattern.compile("import ([^;]*);").matcher(code);
        while (imports.find()) {
            check.due("an import", imports.group(1), "java.util.NoSuchElementException");
        }
        methods(check, lines);
        check.end();
    }

    /** Methods by their indent: at most sixty lines, at most seven parameters. */
    private static void methods(Check check, List<String> lines) {
        Pattern head = Pattern.compile("^( {4}| {8})[a-z][A-Za-z\\[\\] ]* [a-zA-Z]+\\(([^)]*)\\).*");
        int begin = -1;
        String indent = "";
        for (int i = 0; i < lines.size(); i++) {
            Matcher m = head.matcher(lines.get(i));
            if (begin < 0 && m.matches() && !lines.get(i).endsWith(";")) {
                begin = i;
                indent = m.group(1);
                check.due("at most seven parameters of line " + (i + 1), m.group(2).split(",").length <= 7, true);
            } else if (begin >= 0 && lines.get(i).equals(indent + "}")) {
                check.due("at most sixty lines from line " + (begin + 1) + " on", i - begin < 60, true);
                begin = -1;
            }
        }
        check.due("the last method ends", begin, -1);
    }
}
