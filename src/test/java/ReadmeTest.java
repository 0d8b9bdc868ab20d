import java.io.IOException;
import java.io.UncheckedIOException;
import java.lang.reflect.Method;
import java.lang.reflect.Modifier;
import java.nio.file.Files;
import java.nio.file.Path;
import java.util.ArrayList;
import java.util.List;
import java.util.Map;
import java.util.Set;
import java.util.TreeMap;
import java.util.TreeSet;
import java.util.regex.Matcher;
import java.util.regex.Pattern;
import java.util.stream.Collectors;
import java.util.stream.Stream;

/**
 * What README.md shows is so: its example and its commands run in a copy of the project, each line of Java with an answer
 * behind it answers that, and its tables name what there is. Run from the project's root.
 */
public final class ReadmeTest {
    /** A line that is asked: its call, or the variable that it makes, and the answer that README.md tells. */
    private static final Pattern ASKED = Pattern.compile("(?:(?:int|long|boolean) (\\w+) = )?(.+);\\s+// ([^\\s:]+)(?:: .*)?");
    private static final Pattern CALL = Pattern.compile("(?:house|other)\\.(\\w+)\\(.*");
    private static final Pattern ROW = Pattern.compile("\\| `(\\w+)` \\| (.*?) \\|(?: (.*) \\|)?");
    /** Calls that have other ways to refuse than NONE and -2. */
    private static final Set<String> WITHOUT_ROW = Set.of("loan", "sell", "image");

    /** A part of README.md between two fences. */
    private record Block(String kind, int line, List<String> lines) {
        String all() {
            return String.join("\n", lines) + "\n";
        }
    }

    private static final Map<String, Set<String>> ANSWERS = new TreeMap<>();

    public static void main(String[] args) throws Exception {
        List<String> page = Files.readAllLines(Path.of("README.md"));
        List<Block> blocks = blocksOf(page);
        Path top = Files.createTempDirectory("readme");
        try {
            Path project = top.resolve("main");
            copy(Path.of("src"), project.resolve("src"));
            if (Files.isDirectory(Path.of("../shared/tests"))) {
                copy(Path.of("../shared/tests"), top.resolve("shared/tests"));
            }
            example(blocks, project);
            answers(blocks, project);
        } finally {
            remove(top);
        }
        refusals(page);
        tests(page);
        Check.end();
    }

    private static List<Block> blocksOf(List<String> page) {
        List<Block> blocks = new ArrayList<>();
        Block open = null;
        for (int n = 0; n < page.size(); n++) {
            String line = page.get(n);
            if (line.startsWith("```")) {
                if (open == null) {
                    open = new Block(line.substring(3), n + 1, new ArrayList<>());
                } else {
                    blocks.add(open);
                    open = null;
                }
            } else if (open != null) {
                open.lines().add(line);
            }
        }
        Check.due("a block of README.md has no end", open != null, false);
        return blocks;
    }

    /** Example.java is the first block of Java; each block of commands ends well, and prints the text that follows it. */
    private static void example(List<Block> blocks, Path project) throws Exception {
        Check.about("README.md, an example and the commands");
        Block first = blocks.get(0);
        Check.due("the first block is Example.java", first.all().contains("public final class Example {"), true);
        Files.writeString(project.resolve("Example.java"), first.all());
        int shown = 0;
        for (int k = 0; k < blocks.size(); k++) {
            Block block = blocks.get(k);
            // .ci/run runs this test, so this test does not run it.
            if (block.kind().equals("sh") && !block.lines().contains(".ci/run")) {
                shown++;
                if (namesWhatIsNotThere(block)) {
                    continue;
                }
                String out = run(project, block.all(), "the commands of line " + block.line());
                if (k + 1 < blocks.size() && blocks.get(k + 1).kind().equals("text")) {
                    Check.same("the commands of line " + block.line(), out, blocks.get(k + 1).all());
                }
            }
        }
        Check.due("blocks of commands", shown, 3);
        Path ci = Path.of(".ci/run");
        Check.due(".ci/run is there and can be run", Files.isExecutable(ci), true);
    }

    /** Tests under ../shared are not the project's own: another day they may bear other names. */
    private static boolean namesWhatIsNotThere(Block block) {
        Matcher named = Pattern.compile("\\.\\./shared/\\S+").matcher(block.all());
        return named.find() && !Files.exists(Path.of(named.group()));
    }

    /** All other Java of the page as one program, which asks each line that has an answer behind it. */
    private static void answers(List<Block> blocks, Path project) throws Exception {
        Check.about("README.md, call by call");
        StringBuilder code = new StringBuilder("""
                import java.util.NoSuchElementException;
                import java.util.concurrent.Callable;

                final class Shown {
                    static void ask(int line, String call, String want, Callable<Object> asked) throws Exception {
                        String got;
                        try {
                            got = String.valueOf(asked.call());
                        } catch (NoSuchElementException e) {
                            got = "NoSuchElementException";
                        }
                        Check.about("README.md, line " + line);
                        Check.same(call, got, want);
                    }

                    public static void main(String[] args) throws Exception {
                """);
        for (Block block : blocks.subList(1, blocks.size())) {
            for (int k = 0; block.kind().equals("java") && k < block.lines().size(); k++) {
                code.append(shown(block.lines().get(k), block.line() + k + 1));
            }
        }
        code.append("Check.end();\n}\n}\n");
        Files.writeString(project.resolve("Shown.java"), code);
        String out = run(project, "javac -d out -sourcepath src/test/java:src/main/java:. Shown.java\njava -cp out Shown", "Java that is shown");
        System.out.print(out);
        for (String call : calls()) {
            Check.due(call + " is shown with an answer", ANSWERS.containsKey(call), true);
        }
    }

    private static String shown(String line, int number) {
        Matcher asked = ASKED.matcher(line);
        if (!asked.matches()) {
            Check.due("line " + number + " tells an answer that is not asked: " + line, line.contains("//"), false);
            return line + "\n";
        }
        boolean makes = asked.group(1) != null;
        String call = makes ? asked.group(1) : asked.group(2);
        Matcher named = CALL.matcher(call);
        if (named.matches()) {
            ANSWERS.computeIfAbsent(named.group(1), name -> new TreeSet<>()).add(asked.group(3));
        }
        String text = call.replace("\\", "\\\\").replace("\"", "\\\"");
        return (makes ? line + "\n" : "") + "ask(" + number + ", \"" + text + "\", \"" + asked.group(3) + "\", () -> " + call + ");\n";
    }

    /** The table of what is refused has each call, and says "never" just where no line shows such an answer. */
    private static void refusals(List<String> page) {
        Check.about("README.md, what is refused");
        Map<String, Matcher> rows = rowsBehind(page, "| call | `NONE`, -1 | -2 |");
        Set<String> due = calls();
        due.removeAll(WITHOUT_ROW);
        Check.same("the table of calls", String.join(" ", rows.keySet()), String.join(" ", due));
        for (String call : due) {
            Matcher row = rows.get(call);
            if (row != null) {
                Set<String> answers = ANSWERS.getOrDefault(call, Set.of());
                Check.due(call + ": NONE is shown", answers.contains("-1"), !row.group(2).equals("never"));
                boolean shownBelow = answers.stream().anyMatch(answer -> answer.startsWith("-") && !answer.equals("-1"));
                boolean canBe = !row.group(3).equals("never") && !row.group(3).contains("no TEXT tells such a LOAN");
                Check.due(call + ": -2 is shown", shownBelow, canBe);
            }
        }
        for (String call : List.of("sell", "image")) {
            Check.same(call, String.join(" ", ANSWERS.getOrDefault(call, Set.of())), "false true");
        }
        Check.due("loan throws", ANSWERS.getOrDefault("loan", Set.of()).contains("NoSuchElementException"), true);
    }

    private static void tests(List<String> page) throws IOException {
        Check.about("README.md, tests");
        Map<String, Matcher> rows = rowsBehind(page, "| test | what it looks at |");
        try (Stream<Path> files = Files.list(Path.of("src/test/java"))) {
            Set<String> names = files.map(file -> file.getFileName().toString()).filter(name -> name.endsWith("Test.java"))
                    .map(name -> name.replace(".java", "")).collect(Collectors.toCollection(TreeSet::new));
            Check.same("the table of tests", String.join(" ", rows.keySet()), String.join(" ", names));
        }
    }

    private static Map<String, Matcher> rowsBehind(List<String> page, String head) {
        Map<String, Matcher> rows = new TreeMap<>();
        int at = page.indexOf(head);
        Check.due("there is a table " + head, at >= 0, true);
        for (int n = at + 2; at >= 0 && n < page.size() && page.get(n).startsWith("|"); n++) {
            Matcher row = ROW.matcher(page.get(n));
            if (row.matches()) {
                rows.put(row.group(1), row);
            } else {
                Check.due("line " + (n + 1) + " is a row", false, true);
            }
        }
        return rows;
    }

    private static Set<String> calls() {
        Set<String> names = new TreeSet<>();
        for (Method m : DrawnBonds.class.getDeclaredMethods()) {
            if (Modifier.isPublic(m.getModifiers())) {
                names.add(m.getName());
            }
        }
        return names;
    }

    private static String run(Path where, String commands, String what) throws Exception {
        Process process = new ProcessBuilder("sh", "-e", "-c", commands).directory(where.toFile()).redirectErrorStream(true).start();
        String out = new String(process.getInputStream().readAllBytes());
        int code = process.waitFor();
        Check.due(what + (code == 0 ? "" : ", which print " + out), code, 0);
        return out;
    }

    private static void copy(Path from, Path to) throws IOException {
        Files.createDirectories(to);
        try (Stream<Path> all = Files.walk(from)) {
            for (Path one : all.collect(Collectors.toList())) {
                Path target = to.resolve(from.relativize(one).toString());
                if (Files.isDirectory(one)) {
                    Files.createDirectories(target);
                } else {
                    Files.copy(one, target);
                }
            }
        }
    }

    private static void remove(Path top) throws IOException {
        try (Stream<Path> all = Files.walk(top)) {
            all.sorted((a, b) -> b.compareTo(a)).forEach(one -> {
                try {
                    Files.delete(one);
                } catch (IOException e) {
                    throw new UncheckedIOException(e);
                }
            });
        }
    }
}
