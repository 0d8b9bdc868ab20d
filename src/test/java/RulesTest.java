import java.nio.file.Files;
import java.nio.file.Path;
import java.util.List;
import java.util.regex.Pattern;

/** Rules of LANGUAGE.md that can be seen in the lines of the source; run from the project's root. */
public final class RulesTest {
    private static final String[] FORBIDDEN = {"->", "::", "\\bcatch\\b", "\\btry\\b", "\\bfinally\\b", "\\bsynchronized\\b",
        "\\bassert\\b", "Exact\\(", "\\bRandom\\b", "\\bSystem\\.(?!arraycopy)", "^package ", "\\bdouble\\b", "\\bfloat\\b",
        "\\bnew [A-Z]\\w*Exception\\((?!\"[^\"]*\"\\))", "\"[^\"]*\"\\s*\\+", "\\+\\s*\"", "\\bstatic (?!final |int |long |boolean )"};

    public static void main(String[] args) throws Exception {
        List<String> lines = Files.readAllLines(Path.of("src/main/java/DrawnBonds.java"));
        int begun = -1;
        for (int n = 0; n < lines.size(); n++) {
            String line = lines.get(n);
            String code = line.replaceAll("^\\s*(//|/\\*\\*).*", "");
            for (String bad : FORBIDDEN) {
                Check.due("line " + (n + 1) + " has " + bad, Pattern.compile(bad).matcher(code).find(), false);
            }
            if (code.startsWith("import ")) {
                Check.due(code, code.equals("import java.util.Arrays;") || code.equals("import java.util.NoSuchElementException;"), true);
            }
            if (code.matches("( {4}| {8})\\S.*\\) (throws \\w+ )?\\{")) {
                begun = n;
            }
            if (begun >= 0 && code.equals(lines.get(begun).replaceAll("\\S.*", "") + "}")) {
                Check.due("lines of " + lines.get(begun).trim() + " are at most sixty", n - begun < 60, true);
                begun = -1;
            }
            Check.due("line " + (n + 1) + " has signs below 128 alone", line.chars().allMatch(c -> c < 128), true);
        }
        Check.end();
    }
}
