import java.io.IOException;
import java.lang.reflect.Method;
import java.lang.reflect.Modifier;
import java.net.URL;
import java.net.URLClassLoader;
import java.nio.file.Files;
import java.nio.file.Path;
import java.util.ArrayList;
import java.util.HashSet;
import java.util.List;
import java.util.Set;
import java.util.TreeSet;
import java.util.regex.Matcher;
import java.util.regex.Pattern;
import java.util.stream.Stream;
import javax.tools.ToolProvider;

/** README.md: the calls it shows are compiled and run, and its tables are compared with the class and the document. */
public final class ReadmeTest {
    private static final Checks CHECKS = new Checks("ReadmeTest");
    private static final Path README = Path.of("README.md"), DOCUMENT = Path.of("../shared/DOC.md");
    private static final Path TESTS = Path.of("src/test/java");

    private static final Pattern BLOCK = Pattern.compile("(?s)```java\n(.*?)```");
    private static final Pattern MADE = Pattern.compile("GridRiddles \\w+ = new GridRiddles\\(\\);");
    private static final Pattern SHOWN = Pattern.compile("(\\w[^;]*\\));\\s+// (-?\\d+|[A-Z]+)(:.*)?");
    private static final Pattern CALLED = Pattern.compile("\\w+\\.(\\w+)\\(.*");
    private static final Pattern CALL_ROW = Pattern.compile("(?m)^\\| `(\\w+)\\(([^)]*)\\)` \\|[^|]*\\|([^|]*)\\|$");
    private static final Pattern CONSTANT_ROW = Pattern.compile("(?m)^\\| `([A-Z]+)` \\| (-\\d) \\|");
    private static final Pattern KIND_ROW = Pattern.compile("(?m)^\\| (\\d) \\| `(.*?)` \\|");
    private static final String REFUSALS = "UNKNOWN|OUTSIDE|STATE|FULL|NO|FAULT";
    private static final Pattern REFUSED = Pattern.compile("(?:^|[.;] )(" + REFUSALS + ")(?=[:;.])");

    private static final Set<String> shownCalls = new HashSet<>();
    private static final Set<String> shownAnswers = new HashSet<>();

    public static void main(String[] args) throws Exception {
        String readme = Files.readString(README);
        runWhatIsShown(readme);
        callsHaveRows(readme, Files.readString(DOCUMENT));
        constantsHaveRows(readme);
        kindsHaveRows(readme);
        testsAreNamed(readme);
        CHECKS.close();
    }

    // ---- what is shown

    /** Called by the class that is made of README.md's blocks. */
    public static void due(String call, int got, int want) {
        CHECKS.due("README.md: " + call, got, want);
    }

    private static void runWhatIsShown(String readme) throws Exception {
        StringBuilder methods = new StringBuilder();
        StringBuilder body = new StringBuilder();
        Matcher block = BLOCK.matcher(readme);
        while (block.find()) {
            if (block.group(1).startsWith("static ")) {
                methods.append(block.group(1));
            } else {
                addChecks(body, block.group(1));
            }
        }
        compileAndRun("public final class Shown {\n" + methods + "public static void run() {\n" + body + "}\n}\n");
        for (String answer : (REFUSALS + "|NONE").split("\\|")) {
            CHECKS.holds("README.md shows a call that answers " + answer, shownAnswers.contains(answer));
        }
    }

    private static void addChecks(StringBuilder body, String block) {
        for (String line : block.split("\n")) {
            Matcher shown = SHOWN.matcher(line);
            if (shown.matches()) {
                String answer = shown.group(2);
                String want = Character.isLetter(answer.charAt(0)) ? "GridRiddles." + answer : answer;
                body.append("ReadmeTest.due(\"").append(shown.group(1).replace("\"", "\\\"")).append("\", ")
                    .append(shown.group(1)).append(", ").append(want).append(");\n");
                shownAnswers.add(answer);
                Matcher called = CALLED.matcher(shown.group(1));
                shownCalls.add(called.matches() ? called.group(1) : "clue");
            } else {
                CHECKS.holds("README.md: a line makes an object, or tells an answer: " + line,
                    line.isEmpty() || MADE.matcher(line).matches());
                body.append(line).append('\n');
            }
        }
    }

    private static void compileAndRun(String text) throws Exception {
        Path folder = Files.createTempDirectory("readme");
        Path source = folder.resolve("Shown.java");
        Files.writeString(source, text);
        int failed = ToolProvider.getSystemJavaCompiler().run(null, null, null, "-proc:none",
            "-cp", System.getProperty("java.class.path"), "-d", folder.toString(), source.toString());
        CHECKS.due("README.md: compiling what it shows", failed, 0);
        if (failed == 0) {
            try (URLClassLoader loader = new URLClassLoader(new URL[] {folder.toUri().toURL()})) {
                loader.loadClass("Shown").getMethod("run").invoke(null);
            }
        }
        for (String name : new String[] {"Shown.class", "Shown.java", ""}) {
            Files.deleteIfExists(folder.resolve(name));
        }
    }

    // ---- the tables

    private static void callsHaveRows(String readme, String document) {
        Set<String> inRows = new TreeSet<>();
        Matcher row = CALL_ROW.matcher(readme);
        while (row.find()) {
            String name = row.group(1);
            inRows.add(name + " " + (row.group(2).isEmpty() ? 0 : row.group(2).split(", ").length));
            CHECKS.holds("README.md shows a call of " + name, shownCalls.contains(name));
            List<String> want = refusals(promise(document, name));
            List<String> got = refusals(row.group(3).trim() + ".");
            CHECKS.holds("README.md: what " + name + " refuses: " + got + " is as " + want, got.equals(want));
        }
        Set<String> face = new TreeSet<>();
        for (Method method : GridRiddles.class.getDeclaredMethods()) {
            if (Modifier.isPublic(method.getModifiers())) {
                face.add(method.getName() + " " + method.getParameterCount());
            }
        }
        CHECKS.holds("README.md: rows for " + inRows + " are those for " + face, inRows.equals(face));
    }

    private static String promise(String document, String name) {
        int from = document.indexOf("\n`int " + name + "(");
        return from < 0 ? "" : document.substring(from, document.indexOf("\n\n", from));
    }

    private static List<String> refusals(String text) {
        List<String> names = new ArrayList<>();
        Matcher refused = REFUSED.matcher(text);
        while (refused.find()) {
            names.add(refused.group(1));
        }
        return names;
    }

    private static void constantsHaveRows(String readme) throws Exception {
        int rows = 0;
        Matcher row = CONSTANT_ROW.matcher(readme);
        while (row.find()) {
            rows++;
            CHECKS.due("README.md: " + row.group(1), Integer.parseInt(row.group(2)),
                GridRiddles.class.getField(row.group(1)).getInt(null));
        }
        CHECKS.due("README.md: rows for constants", rows, GridRiddles.class.getFields().length);
    }

    private static void kindsHaveRows(String readme) {
        GridRiddles riddle = new GridRiddles();
        int rows = 0;
        Matcher row = KIND_ROW.matcher(readme);
        while (row.find()) {
            for (char sign : row.group(2).replace("\\|", "|").toCharArray()) {
                riddle.say(sign);
            }
            CHECKS.due("README.md: clue() of " + row.group(2), riddle.clue(), rows);
            CHECKS.due("README.md: the KIND of " + row.group(2), riddle.told(rows, 0), Integer.parseInt(row.group(1)));
            rows++;
        }
        CHECKS.due("README.md: rows for KINDS", rows, 7);
    }

    private static void testsAreNamed(String readme) throws IOException {
        try (Stream<Path> files = Files.list(TESTS)) {
            for (Path file : files.toList()) {
                String name = file.getFileName().toString();
                CHECKS.holds("README.md names " + name,
                    !name.endsWith("Test.java") || readme.contains("`" + TESTS + "/" + name + "`"));
            }
        }
    }
}
