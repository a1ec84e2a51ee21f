import java.io.ByteArrayOutputStream;
import java.io.File;
import java.io.IOException;
import java.io.PrintStream;
import java.net.URL;
import java.net.URLClassLoader;
import java.nio.charset.StandardCharsets;
import java.nio.file.Files;
import java.nio.file.Path;
import java.util.regex.Matcher;
import java.util.regex.Pattern;
import javax.tools.ToolProvider;

/** README.md: its example works as it stands, and each method, constant and test is named in it. */
public final class ReadmeTest {
    private static final Path README = Path.of("README.md");
    private static final Path DOCUMENT = Path.of("../shared/DOC.md");
    private static final Path TESTS = Path.of("src/test/java");
    private static final String FENCE = "```";
    private static final String FACE_BEGIN = "public final class ScopeLines {";

    private static final Check CHECK = new Check();

    /** What stands between the fences of the first block of a kind that begins behind a heading. */
    private static String block(String text, String heading, String kind) {
        int begin = text.indexOf("\n" + FENCE + kind + "\n", text.indexOf(heading));
        int first = text.indexOf('\n', begin + 1) + 1;
        int end = text.indexOf(FENCE, first);
        if (!text.contains(heading) || begin < 0 || end < 0) {
            throw new IllegalStateException("no block of " + kind + " behind " + heading);
        }
        return text.substring(first, end);
    }

    private static String outputOf(String source) throws Exception {
        String classes = System.getProperty("java.class.path");
        Path folder = Files.createDirectories(Path.of(classes).resolve("example"));
        Path file = Files.writeString(folder.resolve("Example.java"), source);
        int refused = ToolProvider.getSystemJavaCompiler().run(null, null, null, "-Xlint:all", "-Werror",
                "-cp", classes, "-d", folder.toString(), file.toString());
        return refused != 0 ? "not compiled" : printedBy(folder);
    }

    private static String printedBy(Path folder) throws Exception {
        ByteArrayOutputStream printed = new ByteArrayOutputStream();
        PrintStream shown = System.out;
        System.setOut(new PrintStream(printed, true, StandardCharsets.UTF_8));
        try (URLClassLoader loader = new URLClassLoader(new URL[] {folder.toUri().toURL()})) {
            loader.loadClass("Example").getMethod("main", String[].class).invoke(null, (Object) new String[0]);
        } finally {
            System.setOut(shown);
        }
        return printed.toString(StandardCharsets.UTF_8).replace(System.lineSeparator(), "\n");
    }

    private static void example(String readme) throws Exception {
        CHECK.sentence("an example that works as it stands");
        CHECK.due("the example", outputOf(block(readme, "### An example", "java")),
                block(readme, "\nand prints\n", "text"));
    }

    /** A row of a table has what it is about first, and its other columns are not all empty. */
    private static boolean hasRow(String readme, String first) {
        return readme.lines().anyMatch(row -> row.startsWith("| `" + first + "` |")
                && row.substring(first.length() + 6).matches(".*[a-z].*\\|"));
    }

    private static void face(String readme) throws IOException {
        CHECK.sentence("how an object is made, what each method takes and answers");
        String face = block(Files.readString(DOCUMENT), "## The public face", "java");
        int members = 0;
        for (String line : face.substring(face.indexOf(FACE_BEGIN) + FACE_BEGIN.length()).split("\n")) {
            String member = line.trim().replaceFirst("^public ", "").replaceFirst(";$", "");
            if (member.startsWith("ScopeLines(")) {
                CHECK.due("the constructor", readme.contains("`new ScopeLines(budget)` makes"), true);
            } else if (!member.isEmpty() && !member.equals("}")) {
                members++;
                String first = member.replaceFirst("^static final int ", "");
                CHECK.due("a row for " + first, hasRow(readme, first), true);
            }
        }
        CHECK.due("constants and methods", members, 4 + 17);
    }

    private static void tests(String readme) throws IOException {
        CHECK.sentence("how to run its tests");
        CHECK.due(".ci/run is named", readme.contains("`.ci/run` compiles"), true);
        for (File file : TESTS.toFile().listFiles()) {
            CHECK.due(file.getName() + " is named", readme.contains(file.getName() + "`"), true);
        }
        Matcher named = Pattern.compile("`(?:src/test/java/)?(\\w+\\.java)`").matcher(readme);
        while (named.find()) {
            boolean isThere = named.group(1).equals("Example.java") || Files.exists(TESTS.resolve(named.group(1)));
            CHECK.due(named.group(1) + " is there", isThere, true);
        }
    }

    public static void main(String[] args) throws Exception {
        String readme = Files.readString(README);
        example(readme);
        face(readme);
        tests(readme);
        CHECK.finish("ReadmeTest");
    }
}
