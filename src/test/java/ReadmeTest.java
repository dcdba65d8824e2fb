import java.io.IOException;
import java.net.URL;
import java.net.URLClassLoader;
import java.nio.file.DirectoryStream;
import java.nio.file.Files;
import java.nio.file.Path;
import java.util.ArrayList;
import java.util.List;
import java.util.Set;
import java.util.TreeSet;
import java.util.regex.Matcher;
import java.util.regex.Pattern;
import javax.tools.ToolProvider;

/** What README.md shows of use is what the class answers, and its way to run the tests is that of .ci/run. */
final class ReadmeTest {
    private static final Path README = Path.of("README.md");
    private static final Path SCRIPT = Path.of(".ci/run");
    private static final Path TESTS = Path.of("src/test/java");
    private static final Pattern ANSWERED = Pattern.compile("(x\\..*\\));\\s*// (-?\\d+)(?:: .+)?");
    private static final Check check = new Check();

    private ReadmeTest() { }

    public static void main(String[] args) throws Exception {
        String readme = Files.readString(README);
        List<String> uses = blocks(readme, "java");
        check.due("blocks of use", uses.size(), 3);
        use(uses);
        ways(blocks(readme, "sh"));
        names(readme);
        check.end();
    }

    private static List<String> blocks(String page, String language) {
        List<String> all = new ArrayList<>();
        Matcher block = Pattern.compile("```" + language + "\n(.*?)```\n", Pattern.DOTALL).matcher(page);
        while (block.find()) {
            all.add(block.group(1));
        }
        return all;
    }

    // ---- use

    /** Each call with an answer behind it becomes a row of what it answers and what is due. */
    private static String program(List<String> uses) {
        StringBuilder code = new StringBuilder("public final class ReadmeUse {\n"
            + "public static java.util.List<Object[]> answers() {\n"
            + "java.util.List<Object[]> all = new java.util.ArrayList<>();\n");
        for (String use : uses) {
            code.append("{\n");
            for (String line : use.split("\n")) {
                Matcher answered = ANSWERED.matcher(line);
                if (answered.matches()) {
                    code.append("all.add(new Object[] {\"").append(answered.group(1).replace("\"", "\\\"")).append("\", (long) ")
                        .append(answered.group(1)).append(", ").append(answered.group(2)).append("L});\n");
                } else {
                    check.holds("a call without its answer: " + line, !line.startsWith("x."));
                    code.append(line).append('\n');
                }
            }
            code.append("}\n");
        }
        return code.append("return all;\n}\n}\n").toString();
    }

    private static void use(List<String> uses) throws Exception {
        Path folder = Files.createTempDirectory("readme");
        Path source = Files.writeString(folder.resolve("ReadmeUse.java"), program(uses));
        int compiled = ToolProvider.getSystemJavaCompiler().run(null, null, null, "-proc:none", "-cp",
            System.getProperty("java.class.path"), "-d", folder.toString(), source.toString());
        check.due("javac of what README.md shows", compiled, 0);
        if (compiled == 0) {
            try (URLClassLoader loader = new URLClassLoader(new URL[] {folder.toUri().toURL()})) {
                List<?> rows = (List<?>) loader.loadClass("ReadmeUse").getMethod("answers").invoke(null);
                check.holds("many calls are shown", rows.size() > 30);
                for (Object row : rows) {
                    Object[] parts = (Object[]) row;
                    check.due("README.md: " + parts[0], (Long) parts[1], (Long) parts[2]);
                }
            }
        }
        Files.deleteIfExists(folder.resolve("ReadmeUse.class"));
        Files.delete(source);
        Files.delete(folder);
    }

    // ---- how the tests are run

    private static void ways(List<String> ways) throws IOException, InterruptedException {
        check.due("blocks of how to run the tests", ways.size(), 2);
        check.holds("all by .ci/run", ways.get(0).equals(".ci/run\n"));
        check.holds(".ci/run may be run", Files.isExecutable(SCRIPT));
        String script = Files.readString(SCRIPT);
        int commands = 0;
        for (String line : ways.get(1).split("\n")) {
            if (line.startsWith("java")) {
                commands++;
                String asInScript = line.replace("../shared/tests/BiteChildRuns.java", "\"$file\"")
                    .replaceAll("(\\S*shared-)BiteChildRuns\"", "$1\\$name\"").replaceAll(" (PromisesTest|BiteChildRuns)$", " \"\\$name\"");
                check.holds(".ci/run has: " + asInScript, script.contains(asInScript));
            }
        }
        check.due("commands that README.md tells", commands, 4);
        check.holds(".ci/run has the same main", script.contains("main=src/main/java/BiteChild.java\n")
            && ways.get(1).contains("main=src/main/java/BiteChild.java\n"));
        Process way = new ProcessBuilder("sh", "-e", "-c", ways.get(1)).redirectErrorStream(true).start();
        String said = new String(way.getInputStream().readAllBytes());
        check.due("the way of README.md: " + said, way.waitFor(), 0);
    }

    /** README.md tells of each test that there is and of no other, and .ci/run finds each by its name. */
    private static void names(String readme) throws IOException {
        Set<String> there = new TreeSet<>();
        try (DirectoryStream<Path> files = Files.newDirectoryStream(TESTS, "*.java")) {
            for (Path file : files) {
                String name = file.getFileName().toString().replace(".java", "");
                boolean runs = Files.readString(file).contains("static void main(");
                check.holds("named as .ci/run looks for it: " + name, runs == name.endsWith("Test"));
                if (runs) {
                    there.add(name);
                }
            }
        }
        Set<String> told = new TreeSet<>();
        Matcher name = Pattern.compile("`([A-Z][A-Za-z]*Test)`").matcher(readme);
        while (name.find()) {
            told.add(name.group(1));
        }
        check.holds("tests that are told " + told + ", tests that are there " + there, told.equals(there));
        check.holds(".ci/run runs each of them", Files.readString(SCRIPT).contains("for file in src/test/java/*Test.java; do\n"));
    }
}
