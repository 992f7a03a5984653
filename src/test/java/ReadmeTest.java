import java.io.File;
import java.io.IOException;
import java.lang.reflect.Method;
import java.lang.reflect.Modifier;
import java.net.URL;
import java.net.URLClassLoader;
import java.nio.file.Files;
import java.nio.file.Path;
import java.util.ArrayList;
import java.util.Comparator;
import java.util.List;
import java.util.Map;
import java.util.TreeMap;
import java.util.regex.Matcher;
import java.util.regex.Pattern;
import java.util.stream.Stream;
import javax.tools.ToolProvider;

/** What README.md says of calls and their answers is so. Run in the project's folder. */
public final class ReadmeTest {
    private static final Map<String, Integer> CONSTANTS = Map.of("NONE", WhiteKnights.NONE,
        "UNKNOWN", WhiteKnights.UNKNOWN, "OUTSIDE", WhiteKnights.OUTSIDE, "NOT", WhiteKnights.NOT,
        "FULL", WhiteKnights.FULL);
    private static final String NEW = "WhiteKnights x = new WhiteKnights();";
    /** A call, its answer, the bits that are 1 in it, and words. */
    private static final Pattern EXAMPLE = Pattern.compile(
        "((?:x\\.(\\w+)|tell)\\(.*\\));\\s+// (-?\\d+|[A-Z]+)(?: \\((?:squares|men) ([\\d, ]+)\\))?(?:: .*)?");

    private final Check check = new Check();
    private final String readme;
    private final List<String> calls = new ArrayList<>();
    private final List<Integer> answers = new ArrayList<>();

    private ReadmeTest(String readme) {
        this.readme = readme;
    }

    public static void main(String[] args) throws IOException, ReflectiveOperationException {
        ReadmeTest test = new ReadmeTest(Files.readString(Path.of("README.md")));
        test.examples();
        test.constants();
        test.tables(Files.readString(Path.of("../shared/DOC.md")));
        test.testsAreNamed();
        test.check.end();
    }

    private void examples() throws IOException, ReflectiveOperationException {
        StringBuilder methods = new StringBuilder();
        StringBuilder rows = new StringBuilder();
        Matcher block = Pattern.compile("(?s)```java\n(.*?)```").matcher(readme);
        while (block.find()) {
            if (block.group(1).startsWith("static ")) methods.append(block.group(1));
            else rows.append("{\n").append(rowsOf(block.group(1))).append("}\n");
        }
        String source = "public final class ReadmeExamples {\n" + methods
            + "public static int[] answers() {\nint[] got = new int[" + calls.size() + "];\nint n = 0;\n" + rows
            + "return got;\n}\n}\n";
        int[] got = answersOf(source);
        for (int i = 0; i < got.length; i++) check.due("README.md: " + calls.get(i), got[i], answers.get(i));
        everyCallHasAnExample();
    }

    /** The block's rows, with each call's answer put where it can be looked at. */
    private String rowsOf(String block) {
        StringBuilder rows = new StringBuilder();
        check.due("an example begins with a new object: " + block, block.startsWith(NEW + "\n"));
        for (String line : block.split("\n")) {
            Matcher example = EXAMPLE.matcher(line);
            if (line.equals(NEW)) rows.append(line).append('\n');
            else if (example.matches()) rows.append(rowOf(example));
            else check.due("a call with its answer: " + line, false);
        }
        check.due("calls of an object", block.split("\n").length < 512);
        return rows.toString();
    }

    private String rowOf(Matcher example) {
        String said = example.group(3);
        boolean number = said.matches("-?\\d+");
        check.due("an answer: " + said, number || CONSTANTS.containsKey(said));
        int answer = number ? Integer.parseInt(said) : CONSTANTS.getOrDefault(said, 0);
        calls.add(example.group(1));
        answers.add(answer);
        if (example.group(4) != null) {
            int bits = 0;
            for (String bit : example.group(4).split(", ")) bits |= 1 << Integer.parseInt(bit);
            check.due("bits of " + example.group(), bits, answer);
        }
        return "got[n++] = " + example.group(1) + ";\n";
    }

    private int[] answersOf(String source) throws IOException, ReflectiveOperationException {
        Path folder = Files.createTempDirectory("readme");
        try {
            Path file = Files.writeString(folder.resolve("ReadmeExamples.java"), source);
            int code = ToolProvider.getSystemJavaCompiler().run(null, null, null, "-cp",
                System.getProperty("java.class.path"), "-d", folder.toString(), file.toString());
            check.due("README.md's examples compile", code, 0);
            if (code != 0) return new int[0];
            try (URLClassLoader loader = new URLClassLoader(new URL[] {folder.toUri().toURL()})) {
                return (int[]) loader.loadClass("ReadmeExamples").getMethod("answers").invoke(null);
            }
        } finally {
            try (Stream<Path> paths = Files.walk(folder)) {
                paths.sorted(Comparator.reverseOrder()).map(Path::toFile).forEach(File::delete);
            }
        }
    }

    private void everyCallHasAnExample() {
        for (Method method : WhiteKnights.class.getDeclaredMethods()) {
            if (!Modifier.isPublic(method.getModifiers())) continue;
            String begin = "x." + method.getName() + "(";
            check.due("an example of " + begin, calls.stream().anyMatch(call -> call.startsWith(begin)));
        }
    }

    private void constants() {
        for (Map.Entry<String, Integer> constant : CONSTANTS.entrySet()) {
            String row = "| `" + constant.getKey() + "` | " + constant.getValue() + " |";
            check.due("README.md: " + row, readme.contains(row));
        }
    }

    /** Each call stands once in a table, with the refusals that its promise names. */
    private void tables(String document) {
        Map<String, String> promised = new TreeMap<>();
        Matcher promise = Pattern.compile("(?m)^`int (\\w+\\(.*?\\))`: (.*)$").matcher(document);
        while (promise.find()) {
            promised.put(promise.group(1).replaceAll("\\b(int|long) ", ""), refusalsIn(promise.group(2)));
        }
        check.due("promises of calls", promised.size(), 28);
        Map<String, String> said = new TreeMap<>();
        Matcher row = Pattern.compile("(?m)^\\| `(\\w+\\(.*?\\))` \\|.*\\|([^|]*)\\|$").matcher(readme);
        while (row.find()) {
            check.due("README.md: once alone " + row.group(1), !said.containsKey(row.group(1)));
            said.put(row.group(1), refusalsIn(row.group(2)));
        }
        for (Map.Entry<String, String> call : promised.entrySet()) {
            String got = said.getOrDefault(call.getKey(), "no row");
            check.due("README.md: " + call + ", it says " + got, got.equals(call.getValue()));
        }
        check.due("README.md: rows of calls", said.size(), promised.size());
    }

    private static String refusalsIn(String words) {
        List<String> refusals = new ArrayList<>();
        Matcher refusal = Pattern.compile("\\b(UNKNOWN|OUTSIDE|NOT|FULL)\\b").matcher(words);
        while (refusal.find()) refusals.add(refusal.group());
        return String.join(" ", refusals);
    }

    private void testsAreNamed() throws IOException {
        try (Stream<Path> files = Files.list(Path.of("src/test/java"))) {
            for (Path file : (Iterable<Path>) files::iterator) {
                String name = file.getFileName().toString().replace(".java", "");
                if (name.endsWith("Test")) check.due("README.md: " + name, readme.contains("`" + name + "`"));
            }
        }
    }
}
