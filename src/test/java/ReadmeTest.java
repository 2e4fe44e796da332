import java.io.IOException;
import java.lang.reflect.Method;
import java.lang.reflect.Modifier;
import java.net.URL;
import java.net.URLClassLoader;
import java.nio.file.Files;
import java.nio.file.Path;
import java.util.ArrayList;
import java.util.Comparator;
import java.util.List;
import java.util.Map;
import java.util.TreeMap;
import java.util.regex.Matcher;
import java.util.regex.Pattern;
import java.util.stream.Stream;
import javax.tools.ToolProvider;

/** README.md tells the truth: its examples answer what stands behind them, its tables have every call and finding. */
public final class ReadmeTest {
    private static final List<String> FINDINGS = List.of("BEYOND", "FULL", "KIND", "NONE", "STATE", "MISSING", "SIZE");
    private static final String ANY_FINDING = String.join("|", FINDINGS);
    private static final Pattern ANSWERED =
        Pattern.compile("((?:(?:int|long) \\w+ = )?)(shore\\.\\w+\\(.*\\)); +// (-?\\d+)(?::.*|,.*)?");
    private static final Pattern CALL_ROW = Pattern.compile("\\| `(\\w+)\\((.*?)\\)` \\| (.*) \\| (.*)\\|");
    private static final Pattern KIND_ROW = Pattern.compile("\\| (\\d) \\| (\\w+) \\| (\\w*) ?\\|.*");
    private static final Pattern PROMISE = Pattern.compile("`(?:int|long) (\\w+)\\((.*?)\\)`: (.*)");

    private static int wrong = 0;

    private static void due(String told, Object got, Object want) {
        if (!got.equals(want)) {
            wrong++;
            System.out.println(told + ": " + got + ", due is " + want);
        }
    }

    /** Each block of Java, its lines led by their numbers in README.md. */
    private static List<Map<Integer, String>> javaBlocks(List<String> lines) {
        List<Map<Integer, String>> blocks = new ArrayList<>();
        Map<Integer, String> open = null;
        for (int i = 0; i < lines.size(); i++) {
            String line = lines.get(i);
            if (open == null && line.equals("```java")) {
                open = new TreeMap<>();
                blocks.add(open);
            } else if (line.equals("```")) {
                open = null;
            } else if (open != null) {
                open.put(i + 1, line);
            }
        }
        return blocks;
    }

    /** A call with its answer becomes a look at that answer; a call without one is a fault of the page. */
    private static String lineOfProgram(int number, String line) {
        Matcher m = ANSWERED.matcher(line);
        if (m.matches()) {
            return m.group(1) + "due(" + number + ", " + m.group(2) + ", " + m.group(3) + ");\n";
        }
        due("README.md line " + number + " has a call without an answer", line.startsWith("shore."), false);
        return line + "\n";
    }

    private static String programOf(List<Map<Integer, String>> blocks) {
        StringBuilder members = new StringBuilder();
        StringBuilder examples = new StringBuilder();
        for (Map<Integer, String> block : blocks) {
            boolean isMember = block.values().iterator().next().startsWith("static ");
            StringBuilder part = isMember ? members : examples.append("{\n");
            block.forEach((number, line) -> part.append(isMember ? line + "\n" : lineOfProgram(number, line)));
            part.append(isMember ? "" : "}\n");
        }
        return "public final class Examples {\n"
            + "public static int seen = 0;\npublic static int wrong = 0;\n"
            + "static int due(int line, long got, long want) {\nseen++;\n"
            + "if (got != want) {\nwrong++;\n"
            + "System.out.println(\"README.md line \" + line + \" answers \" + got + \", and says \" + want);\n}\n"
            + "return (int) got;\n}\n"
            + members + "public static void run() {\n" + examples + "}\n}\n";
    }

    private static void lookAtExamples(List<String> lines) throws IOException, ReflectiveOperationException {
        Path out = Files.createTempDirectory("readme");
        try {
            Path source = out.resolve("Examples.java");
            Files.writeString(source, programOf(javaBlocks(lines)));
            int refused = ToolProvider.getSystemJavaCompiler().run(null, null, null,
                "-cp", System.getProperty("java.class.path"), "-d", out.toString(), source.toString());
            due("javac refuses the examples of README.md", refused, 0);
            if (refused != 0) {
                return;
            }
            try (URLClassLoader loader = new URLClassLoader(new URL[] {out.toUri().toURL()})) {
                Class<?> examples = loader.loadClass("Examples");
                examples.getMethod("run").invoke(null);
                wrong += examples.getField("wrong").getInt(null);
                due("there are examples", examples.getField("seen").getInt(null) > 50, true);
            }
        } finally {
            remove(out);
        }
    }

    private static void remove(Path directory) throws IOException {
        try (Stream<Path> all = Files.walk(directory)) {
            for (Path path : all.sorted(Comparator.reverseOrder()).toList()) {
                Files.delete(path);
            }
        }
    }

    private static List<String> allOf(String regex, String text) {
        List<String> found = new ArrayList<>();
        Matcher m = Pattern.compile(regex).matcher(text);
        while (m.find()) {
            found.add(m.group(1));
        }
        return found;
    }

    /** Of each call the names of what it takes, and its findings in their order, as the document's promises have them. */
    private static Map<String, String> callsOfDocument() throws IOException {
        Map<String, String> calls = new TreeMap<>();
        for (String line : Files.readAllLines(Path.of("../shared/DOC.md"))) {
            Matcher m = PROMISE.matcher(line);
            if (m.matches()) {
                // A finding opens its sentence or stands in a row of them; elsewhere KIND and MISSING are plain terms.
                String findings = "(?<=[.:,] )(" + ANY_FINDING + ")(?=[.:,]| likewise| \\(counted)";
                calls.put(m.group(1), "(" + m.group(2).replaceAll("(int|long) ", "") + ") " + allOf(findings, m.group(3)));
            }
        }
        return calls;
    }

    private static void lookAtCalls(List<String> lines) throws IOException {
        Map<String, String> told = new TreeMap<>();
        for (String line : lines) {
            Matcher m = CALL_ROW.matcher(line);
            if (m.matches()) {
                String call = "(" + m.group(2) + ") " + allOf("\\b(" + ANY_FINDING + ")\\b", m.group(4));
                due(m.group(1) + " stands twice in README.md", told.put(m.group(1), call) == null, true);
            }
        }
        Map<String, String> promised = callsOfDocument();
        promised.forEach((name, call) -> due("README.md's row of " + name, told.getOrDefault(name, "none"), call));
        due("the calls of README.md", told.keySet(), promised.keySet());
        for (Method m : PrintShore.class.getDeclaredMethods()) {
            if (Modifier.isPublic(m.getModifiers())) {
                due("README.md has " + m.getName(), told.containsKey(m.getName()), true);
            }
        }
    }

    private static void lookAtFindings(List<String> lines) {
        for (int i = 0; i < FINDINGS.size(); i++) {
            String begin = "| " + FINDINGS.get(i) + " | " + (-1000001 - i) + " | `status(" + i + ")` | ";
            due("rows of " + FINDINGS.get(i), lines.stream().filter(line -> line.startsWith(begin)).count(), 1L);
        }
    }

    private static int kindOfWord(String word) {
        PrintShore shore = new PrintShore();
        for (int i = 0; i < word.length(); i++) {
            shore.feed(word.charAt(i), 1);
        }
        due("'" + word + "' is a text of one item", shore.text(), 1);
        return shore.of(0, 0);
    }

    private static boolean isUnder(int kind, int above) {
        PrintShore shore = new PrintShore();
        shore.hold(0, shore.walker(kind, 0));
        return shore.as(0, above) == 0;
    }

    private static void lookAtKinds(List<String> lines) {
        int rows = 0;
        for (String line : lines) {
            Matcher m = KIND_ROW.matcher(line.strip());
            if (m.matches()) {
                rows++;
                int kind = Integer.parseInt(m.group(1));
                due("the number of a " + m.group(2), kind, kindOfWord(m.group(2)));
                String above = m.group(3).isEmpty() ? "walker" : m.group(3);
                due("a " + m.group(2) + " is under " + above, isUnder(kind, kindOfWord(above)), true);
            }
        }
        due("rows of kinds", rows, 7);
    }

    private static void lookAtTests(List<String> lines) throws IOException {
        due(".ci/run can be run", Files.isExecutable(Path.of(".ci/run")), true);
        for (String directory : List.of("src/test/java", "../shared/tests")) {
            try (Stream<Path> tests = Files.list(Path.of(directory))) {
                for (Path test : tests.toList()) {
                    String name = test.getFileName().toString().replace(".java", "");
                    due("README.md tells what " + name + " is for",
                        lines.stream().anyMatch(line -> line.startsWith("- `" + name + "`")), true);
                }
            }
        }
    }

    public static void main(String[] args) throws IOException, ReflectiveOperationException {
        List<String> lines = Files.readAllLines(Path.of("README.md"));
        lookAtExamples(lines);
        lookAtCalls(lines);
        lookAtFindings(lines);
        lookAtKinds(lines);
        lookAtTests(lines);
        System.out.println(wrong == 0 ? "README.md is as due" : wrong + " faults of README.md");
        if (wrong != 0) {
            System.exit(1);
        }
    }
}
