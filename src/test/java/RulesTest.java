import java.nio.file.Files;
import java.nio.file.Path;
import java.util.List;
import java.util.Map;
import java.util.Set;
import java.util.TreeMap;
import java.util.TreeSet;
import java.util.regex.Matcher;
import java.util.regex.Pattern;

/** Rules of LANGUAGE.md that can be seen in the lines of the source; run from the project's root. */
public final class RulesTest {
    private static final String[] FORBIDDEN = {"->", "::", "\\bcatch\\b", "\\btry\\b", "\\bfinally\\b", "\\bsynchronized\\b",
        "\\bassert\\b", "Exact\\(", "\\bRandom\\b", "\\bSystem\\.(?!arraycopy)", "^package ", "\\bdouble\\b", "\\bfloat\\b",
        "\\bnew [A-Z]\\w*Exception\\((?!\"[^\"]*\"\\))", "\"[^\"]*\"\\s*\\+", "\\+\\s*\"", "\\bstatic (?!final |int |long |boolean )"};

    private static final Pattern METHOD = Pattern.compile(
            "( {4}| {8})(?:(?:private|public|static|final) )*(?:[\\w\\[\\]]+ )?(\\w+)\\([^)]*\\) (?:throws \\w+ )?\\{");
    private static final Pattern CALLED = Pattern.compile("\\b([a-z]\\w*)\\(");
    private static final int DEEPEST = 8;

    public static void main(String[] args) throws Exception {
        List<String> lines = Files.readAllLines(Path.of("src/main/java/DrawnBonds.java"));
        int begun = -1;
        for (int n = 0; n < lines.size(); n++) {
            String line = lines.get(n);
            String code = line.replaceAll("^\\s*(//|/\\*\\*).*", "");
            for (String bad : FORBIDDEN) {
                Check.due("line " + (n + 1) + " has " + bad, Pattern.compile(bad).matcher(code).find(), false);
            }
            if (code.startsWith("import ")) {
                Check.due(code, code.equals("import java.util.Arrays;") || code.equals("import java.util.NoSuchElementException;"), true);
            }
            if (code.matches("( {4}| {8})\\S.*\\) (throws \\w+ )?\\{")) {
                begun = n;
            }
            if (begun >= 0 && code.equals(lines.get(begun).replaceAll("\\S.*", "") + "}")) {
                Check.due("lines of " + lines.get(begun).trim() + " are at most sixty", n - begun < 60, true);
                begun = -1;
            }
            Check.due("line " + (n + 1) + " has signs below 128 alone", line.chars().allMatch(c -> c < 128), true);
        }
        depth(lines);
        Check.end();
    }

    /** Rule 11: calls go at most eight deep; no method comes back to itself, as then there would be no deepest one. */
    private static void depth(List<String> lines) {
        Map<String, Set<String>> calls = new TreeMap<>();
        String method = null;
        String end = "";
        for (String line : lines) {
            Matcher head = METHOD.matcher(line);
            if (head.matches()) {
                method = head.group(2);
                end = head.group(1) + "}";
                Check.due(method + " is the name of one method alone", calls.containsKey(method), false);
                calls.put(method, new TreeSet<>());
            } else if (line.equals(end)) {
                method = null;
            } else if (method != null) {
                Matcher called = CALLED.matcher(line);
                while (called.find()) {
                    calls.get(method).add(called.group(1));
                }
            }
        }
        Check.due("methods were found", calls.size() > 35, true);
        for (String name : calls.keySet()) {
            Check.due("calls that stand open at once, from " + name + " on, are too many", deeper(calls, name, 1) > DEEPEST, false);
        }
    }

    private static int deeper(Map<String, Set<String>> calls, String name, int depth) {
        int deepest = depth;
        for (String called : calls.get(name)) {
            if (calls.containsKey(called) && deepest <= DEEPEST) {
                deepest = Math.max(deepest, deeper(calls, called, depth + 1));
            }
        }
        return deepest;
    }
}
