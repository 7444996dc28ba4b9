import java.io.File;
import java.io.IOException;
import java.net.URL;
import java.net.URLClassLoader;
import java.nio.file.Files;
import java.nio.file.Path;
import java.util.List;
import java.util.regex.Matcher;
import java.util.regex.Pattern;
import java.util.stream.Collectors;
import java.util.stream.Stream;

/** Compiles and runs README.md's example, and looks whether README.md names all calls, tests and files as they are. */
public final class ReadmeTest {
    private static final Path DOCUMENT = Path.of("../shared/DOC.md");
    /** A call of the example, with the answer that its remark begins with. */
    private static final Pattern ANSWERED = Pattern.compile("^(int \\w+ = )?(well\\.\\w+\\(.*\\));\\s*// (-?\\d+)\\b.*$");
    private static int looked = 0;
    private static int wrong = 0;

    private ReadmeTest() {
    }

    /** The example calls this too. */
    public static void due(String what, boolean holds) {
        looked++;
        if (!holds) {
            wrong++;
            System.out.println("not so: " + what);
        }
    }

    /** The example calls this behind each of its calls. */
    public static int answered(String call, long got, long want) {
        due("README.md's " + call + " answers " + want + ", but it is " + got, got == want);
        return (int) got;
    }

    private static String example(String readme) {
        StringBuilder code = new StringBuilder();
        Matcher block = Pattern.compile("(?s)```java\n(.*?)```").matcher(readme);
        while (block.find()) {
            for (String line : block.group(1).split("\n")) {
                code.append(looking(line)).append('\n');
            }
        }
        return code.toString();
    }

    private static String looking(String line) {
        Matcher m = ANSWERED.matcher(line);
        if (!m.matches()) {
            due("README.md tells what this answers: " + line, !line.startsWith("well.") && !line.startsWith("int "));
            return line;
        }
        String kept = m.group(1) == null ? "" : m.group(1);
        return kept + "ReadmeTest.answered(\"" + m.group(2) + "\", " + m.group(2) + ", " + m.group(3) + "L);";
    }

    private static void runExample(String readme) throws Exception {
        String code = example(readme);
        due("README.md has an example", code.contains("ReadmeTest.answered"));
        Path folder = Files.createTempDirectory("readme");
        Path source = folder.resolve("Example.java");
        try {
            Files.writeString(source, "public class Example { public static void run() {\n" + code + "}}\n");
            int rc = new ProcessBuilder("javac", "-cp", System.getProperty("java.class.path"), "-d", folder.toString(),
                source.toString()).inheritIO().start().waitFor();
            due("README.md's example is Java", rc == 0);
            if (rc == 0) {
                try (URLClassLoader loader = new URLClassLoader(new URL[] {folder.toUri().toURL()})) {
                    loader.loadClass("Example").getMethod("run").invoke(null);
                }
            }
        } finally {
            for (File file : folder.toFile().listFiles()) {
                file.delete();
            }
            folder.toFile().delete();
        }
    }

    /** Each promise's call, with its number and the document's names. */
    private static void namesAllCalls(String readme, String document) {
        Matcher promise = Pattern.compile("## Promise (\\d+): \\w+\n\n`(?:int|long) (\\w+)\\(([^)]*)\\)`").matcher(document);
        int calls = 0;
        while (promise.find()) {
            calls++;
            String names = promise.group(3).replaceAll("\\b(int|long) ", "");
            String row = "| " + promise.group(1) + " | `" + promise.group(2) + "(" + names + ")` |";
            due("README.md has the row " + row, readme.contains(row));
        }
        due("37 calls: " + calls, calls == 37);
    }

    private static void namesWhatIsThere(String readme) throws IOException {
        try (Stream<Path> files = Files.list(Path.of("src/test/java"))) {
            List<String> tests = files.map(f -> f.getFileName().toString()).filter(f -> f.endsWith("Test.java"))
                .map(f -> "- `" + f.replace(".java", "") + "`:").collect(Collectors.toList());
            for (String test : tests) {
                due("README.md tells what this does: " + test, readme.contains(test));
            }
        }
        Matcher test = Pattern.compile("- `(\\w+Test)`:").matcher(readme);
        while (test.find()) {
            due(test.group(1) + " is there", Files.exists(Path.of("src/test/java", test.group(1) + ".java")));
        }
        Matcher path = Pattern.compile("`((?:src|\\.ci|\\.\\./shared)/[\\w./-]*)`").matcher(readme);
        while (path.find()) {
            boolean mayBeElsewhere = path.group(1).startsWith("../shared") && !Files.exists(DOCUMENT);
            due(path.group(1) + " is there", mayBeElsewhere || Files.exists(Path.of(path.group(1))));
        }
    }

    public static void main(String[] args) throws Exception {
        String readme = Files.readString(Path.of("README.md"));
        runExample(readme);
        if (Files.exists(DOCUMENT)) {
            namesAllCalls(readme, Files.readString(DOCUMENT));
        }
        namesWhatIsThere(readme);
        System.out.println(looked + " things that README.md says looked at, " + wrong + " of them wrong");
        System.exit(wrong == 0 ? 0 : 1);
    }
}
