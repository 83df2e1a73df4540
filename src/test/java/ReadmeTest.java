import java.io.IOException;
import java.lang.reflect.Method;
import java.lang.reflect.Modifier;
import java.net.URL;
import java.net.URLClassLoader;
import java.nio.file.Files;
import java.nio.file.Path;
import java.util.ArrayList;
import java.util.List;
import java.util.Set;
import java.util.TreeSet;
import java.util.regex.MatchResult;
import java.util.regex.Matcher;
import java.util.regex.Pattern;
import java.util.stream.Stream;
import javax.tools.JavaCompiler;
import javax.tools.ToolProvider;

/** What README.md says of the calls, of their answers and of the tests is so. */
public final class ReadmeTest {
    private static final Path README = Path.of("README.md");
    private static final Path DOCUMENT = Path.of("../shared/DOC.md");
    private static final Path TESTS = Path.of("src/test/java");
    private static final Pattern ANSWERED = Pattern.compile("^(\\w+\\.(\\w+)\\(.*\\));\\s*// (-?\\d+): \\S.*$");
    private static final String[] REFUSALS = {"BAD", "NO", "NONE", "FULL"};

    public static void main(String[] args) throws Exception {
        String readme = Files.readString(README);
        List<String> rows = codeOf(readme);
        everyCallIsShown(rows);
        codeAnswersAsWritten(rows);
        callsAreTheDocuments(readme, Files.readString(DOCUMENT));
        constantsAreAsWritten(readme);
        firstTableIsAsWritten(readme);
        testsAreNamed(readme);
        Check.finish();
    }

    private static List<MatchResult> found(String text, String pattern) {
        return Pattern.compile(pattern).matcher(text).results().toList();
    }

    private static List<String> codeOf(String readme) {
        List<String> rows = new ArrayList<>();
        for (MatchResult block : found(readme, "(?ms)^```java\n(.*?)^```$")) {
            rows.addAll(block.group(1).lines().toList());
        }
        return rows;
    }

    private static void everyCallIsShown(List<String> rows) {
        Check.sentence("README shows an answer of every call");
        Set<String> shown = new TreeSet<>();
        for (String row : rows) {
            Matcher answered = ANSWERED.matcher(row);
            boolean hasAnswer = answered.matches();
            if (hasAnswer) {
                shown.add(answered.group(2));
            }
            Check.due("remarks without an answer: " + row, row.contains("//") && !hasAnswer ? 1 : 0, 0);
        }
        for (Method method : SaltToLiars.class.getDeclaredMethods()) {
            if (Modifier.isPublic(method.getModifiers())) {
                Check.due(method.getName() + " is shown", shown.contains(method.getName()) ? 1 : 0, 1);
            }
        }
    }

    private static void codeAnswersAsWritten(List<String> rows) throws Exception {
        Check.sentence("README's code answers what stands behind it");
        List<Matcher> wanted = new ArrayList<>();
        StringBuilder code = new StringBuilder();
        for (String row : rows) {
            Matcher answered = ANSWERED.matcher(row);
            if (answered.matches()) {
                code.append("all[").append(wanted.size()).append("] = ").append(answered.group(1)).append(";\n");
                wanted.add(answered);
            } else {
                code.append(row).append('\n');
            }
        }
        long[] got = answersOf(code.toString(), wanted.size());
        for (int k = 0; k < wanted.size(); k++) {
            Check.due(wanted.get(k).group(1), got[k], Long.parseLong(wanted.get(k).group(3)));
        }
    }

    /** The code becomes a class of its own, which is compiled beside the one that it uses, and run. */
    private static long[] answersOf(String code, int answers) throws Exception {
        Path room = Files.createTempDirectory("readme");
        Path source = room.resolve("ReadmeCode.java");
        Files.writeString(source, "public final class ReadmeCode {\npublic static long[] answers() {\nlong[] all = new long["
            + answers + "];\n" + code + "return all;\n}\n}\n");
        JavaCompiler compiler = ToolProvider.getSystemJavaCompiler();
        int failed = compiler.run(null, null, null, "--release", "17", "-cp", System.getProperty("java.class.path"),
            "-d", room.toString(), source.toString());
        Check.due("compiling README's code", failed, 0);
        try (URLClassLoader loader = new URLClassLoader(new URL[] {room.toUri().toURL()})) {
            return failed == 0
                ? (long[]) loader.loadClass("ReadmeCode").getMethod("answers").invoke(null) : new long[answers];
        } finally {
            clear(room);
        }
    }

    private static void clear(Path room) throws IOException {
        try (Stream<Path> files = Files.list(room)) {
            for (Path file : files.toList()) {
                Files.delete(file);
            }
        }
        Files.delete(room);
    }

    private static String refusalsIn(String words) {
        StringBuilder all = new StringBuilder();
        for (String refusal : REFUSALS) {
            if (!found(words, "\\b" + refusal + "\\b").isEmpty()) {
                all.append(all.length() == 0 ? "" : ", ").append(refusal);
            }
        }
        return all.toString();
    }

    private static void callsAreTheDocuments(String readme, String document) {
        Check.sentence("README's tables name the document's calls, each once, with its refusals in their order");
        List<MatchResult> promised = found(document, "(?m)^`(?:int|long) (\\w+\\([^`]*\\))`: (.*)$");
        Check.due("calls that the document promises", promised.size(), 27);
        Check.due("calls in README's tables", found(readme, "(?m)^\\| `\\w+\\([^`]*\\)` \\|").size(), promised.size());
        for (MatchResult call : promised) {
            String refusals = refusalsIn(call.group(2));
            String row = "(?m)^\\| `" + Pattern.quote(call.group(1)) + "` \\| .*\\S \\| "
                + (refusals.isEmpty() ? "" : refusals + " ") + "\\|$";
            Check.due("rows of " + call.group(1) + " by " + refusals, found(readme, row).size(), 1);
        }
    }

    private static void constantsAreAsWritten(String readme) throws ReflectiveOperationException {
        Check.sentence("README's constants are the class's, in the order in which they go");
        List<MatchResult> rows = found(readme, "(?m)^\\| `([A-Z]+)` \\| (-\\d) \\|");
        Check.due("constants", rows.size(), REFUSALS.length);
        for (int k = 0; k < rows.size(); k++) {
            String name = rows.get(k).group(1);
            Check.due(name + " in its place", name.equals(REFUSALS[k]) ? 1 : 0, 1);
            Check.due(name, SaltToLiars.class.getField(name).getInt(null), Long.parseLong(rows.get(k).group(2)));
        }
    }

    /** Laid from README's text, an object answers as a new one. */
    private static void firstTableIsAsWritten(String readme) {
        Check.sentence("a new object has the table that README tells");
        List<MatchResult> texts = found(readme, "the table `([^`]*)`");
        Check.due("texts", texts.size(), 1);
        SaltToLiars fresh = new SaltToLiars();
        SaltToLiars laid = Check.laid(texts.get(0).group(1));
        for (int what = 0; what <= 8; what++) {
            Check.due("count " + what, fresh.count(what), laid.count(what));
        }
        for (int i = 0; i < laid.count(0); i++) {
            for (int what = 0; what <= 4; what++) {
                Check.due("guest " + i + ", " + what, fresh.guest(i, what), laid.guest(i, what));
            }
        }
        for (int t = 0; t < laid.count(1); t++) {
            for (int what = 0; what <= 1; what++) {
                Check.due("thing " + t + ", " + what, fresh.thing(t, what), laid.thing(t, what));
            }
        }
    }

    private static void testsAreNamed(String readme) throws IOException {
        Check.sentence("README names the tests that there are");
        Set<String> named = new TreeSet<>();
        for (MatchResult name : found(readme, "`(\\w+Test)`")) {
            named.add(name.group(1) + ".java");
        }
        Set<String> there = new TreeSet<>();
        try (Stream<Path> files = Files.list(TESTS)) {
            files.map(file -> file.getFileName().toString()).filter(name -> name.endsWith("Test.java")).forEach(there::add);
        }
        Check.due("named " + named + ", there " + there, named.equals(there) ? 1 : 0, 1);
        Check.due(".ci/run can be run", Files.isExecutable(Path.of(".ci/run")) ? 1 : 0, 1);
    }
}
