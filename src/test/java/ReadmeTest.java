import java.io.IOException;
import java.net.URL;
import java.net.URLClassLoader;
import java.nio.charset.StandardCharsets;
import java.nio.file.DirectoryStream;
import java.nio.file.Files;
import java.nio.file.Path;
import java.util.ArrayList;
import java.util.List;
import java.util.regex.Matcher;
import java.util.regex.Pattern;
import javax.tools.ToolProvider;

/** README.md's example answers as it says, and its table names every test; runs in the project's folder. */
public final class ReadmeTest {
    private static final Path README = Path.of("README.md");
    private static final Path TESTS = Path.of("src/test/java");
    private static final Check check = new Check();

    /** Not Example, as a reader of README.md may have compiled one of his own beside the tests. */
    private static final String NAME = "ExampleOfReadme";

    /** A call, with a name for its answer or without one, and behind it the answer that is due. */
    private static final Pattern CALL =
        Pattern.compile("(?:int (\\w+) = )?(x\\.\\w+\\(.*?\\)); +// (-?\\d+|[A-Z]+)(?::.*)?");
    private static final Pattern CALL_OF_ANY_FORM = Pattern.compile("\\bx\\.(\\w+)\\(");

    public static void main(String[] args) throws Exception {
        List<String> readme = Files.readAllLines(README, StandardCharsets.UTF_8);
        example(exampleOf(readme));
        table(readme);
        check.end("ReadmeTest");
    }

    private static List<String> exampleOf(List<String> readme) {
        int begin = readme.indexOf("```java") + 1;
        int many = readme.subList(begin, readme.size()).indexOf("```");
        boolean has = begin > 0 && many > 0;
        check.due("README.md has an example", has ? 1 : 0, 1);
        return has ? readme.subList(begin, begin + many) : List.of();
    }

    private static void example(List<String> lines) throws Exception {
        List<String> calls = new ArrayList<>();
        int[][] answers = answersOf(programOf(lines, calls));
        check.due("calls with an answer, and answers", answers.length, calls.size());
        for (int i = 0; i < answers.length; i++) check.due("README.md: " + calls.get(i), answers[i][0], answers[i][1]);
    }

    /** Each call with an answer becomes a pair of what it answers and what is due; other lines stay as they are. */
    private static String programOf(List<String> lines, List<String> calls) {
        StringBuilder program = new StringBuilder();
        program.append("public final class ").append(NAME).append(" { public static int[][] answers() {\n");
        program.append("java.util.List<int[]> told = new java.util.ArrayList<>();\n");
        for (String line : lines) {
            Matcher call = CALL.matcher(line);
            if (!call.matches()) {
                boolean answerIsNotRead = CALL_OF_ANY_FORM.matcher(line).find() && line.contains("//");
                check.due("README.md: the answer of " + line + " is read", answerIsNotRead ? 0 : 1, 1);
                program.append(line).append('\n');
                continue;
            }
            calls.add(line);
            String name = call.group(1) == null ? "told" + calls.size() : call.group(1);
            String due = call.group(3).matches("[A-Z]+") ? "RegionHandles." + call.group(3) : call.group(3);
            program.append("int ").append(name).append(" = ").append(call.group(2)).append(";\n");
            program.append("told.add(new int[] {").append(name).append(", ").append(due).append("});\n");
        }
        return program.append("return told.toArray(new int[0][]); } }\n").toString();
    }

    private static int[][] answersOf(String program) throws Exception {
        Path folder = Files.createTempDirectory("readme");
        Path source = folder.resolve(NAME + ".java");
        try {
            Files.writeString(source, program, StandardCharsets.UTF_8);
            int fault = ToolProvider.getSystemJavaCompiler().run(null, null, null, "-encoding", "UTF-8",
                "-cp", System.getProperty("java.class.path"), "-d", folder.toString(), source.toString());
            check.due("README.md: the example compiles", fault, 0);
            if (fault != 0) return new int[0][];
            try (URLClassLoader loader = new URLClassLoader(new URL[] {folder.toUri().toURL()})) {
                return (int[][]) loader.loadClass(NAME).getMethod("answers").invoke(null);
            }
        } finally {
            remove(folder);
        }
    }

    private static void remove(Path folder) throws IOException {
        try (DirectoryStream<Path> files = Files.newDirectoryStream(folder)) {
            for (Path file : files) Files.delete(file);
        }
        Files.delete(folder);
    }

    private static void table(List<String> readme) throws IOException {
        try (DirectoryStream<Path> files = Files.newDirectoryStream(TESTS, "*Test.java")) {
            for (Path file : files) {
                String row = "| `" + file.getFileName().toString().replace(".java", "") + "` |";
                check.due("README.md's row of " + row, readme.stream().filter(l -> l.startsWith(row)).count(), 1);
            }
        }
    }
}
