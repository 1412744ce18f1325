import java.io.File;
import java.io.IOException;
import java.nio.file.Files;
import java.nio.file.Path;
import java.util.ArrayList;
import java.util.Comparator;
import java.util.List;
import java.util.TreeSet;
import java.util.regex.Matcher;
import java.util.regex.Pattern;
import java.util.stream.Collectors;
import java.util.stream.Stream;
import javax.tools.ToolProvider;

/** What README.md says of using the class and of running the tests holds as it is written there. */
public final class ReadmeTest {
    private static final Pattern BLOCK = Pattern.compile("```(\\w+)\n(.*?)```", Pattern.DOTALL);
    private static final Pattern ANSWERED =
            Pattern.compile("(?m)^(x\\.\\w+\\(.*\\)); +// (-?\\d+|EmberTale\\.[A-Z]+): .+$");
    private static final Pattern CALL_ROW = Pattern.compile("(?m)^\\| `(\\w+\\([\\w, ]*\\))` \\|");
    private static final Pattern TEST_ROW = Pattern.compile("(?m)^\\| `(\\w+Test)` \\|");
    private static final Pattern CONSTANT_ROW = Pattern.compile("(?m)^\\| `([A-Z]+)` \\((-\\d)\\) \\|");
    private static final Pattern FACE = Pattern.compile("(?m)^    public int (\\w+)\\((.*)\\);$");

    private static int wrong = 0;

    public static void main(String[] args) throws IOException, InterruptedException {
        String readme = Files.readString(Path.of("README.md"));
        Path work = Files.createTempDirectory("readme");
        try {
            example(blocks(readme, "java"), work);
            commands(blocks(readme, "sh"), work);
        } finally {
            remove(work);
        }
        due("calls", all(CALL_ROW, readme), face());
        due("tests", new TreeSet<>(all(TEST_ROW, readme)), new TreeSet<>(tests()));
        constants(readme);
        System.out.println(wrong == 0 ? "README.md holds" : wrong + " faults");
        if (wrong != 0) {
            System.exit(1);
        }
    }

    private static void due(String what, Object got, Object want) {
        if (!got.equals(want)) {
            wrong++;
            System.out.println(what + ": " + got + ", due is " + want);
        }
    }

    private static List<String> blocks(String readme, String language) {
        List<String> blocks = new ArrayList<>();
        Matcher block = BLOCK.matcher(readme);
        while (block.find()) {
            if (block.group(1).equals(language)) {
                blocks.add(block.group(2));
            }
        }
        return blocks;
    }

    private static List<String> all(Pattern row, String readme) {
        List<String> all = new ArrayList<>();
        Matcher found = row.matcher(readme);
        while (found.find()) {
            all.add(found.group(1));
        }
        return all;
    }

    /** The example as it stands there, but that each answer is compared with the one behind it. */
    private static void example(List<String> blocks, Path work) throws IOException, InterruptedException {
        due("examples", blocks.size(), 1);
        String example = String.join("\n", blocks);
        int answers = all(ANSWERED, example).size();
        due("comments that tell an answer", answers, example.split("//", -1).length - 1);
        due("answers are some (" + answers + ")", answers >= 20, true);
        String compared = ANSWERED.matcher(example).replaceAll("due(\"$1\", $1, $2);");
        Path source = work.resolve("Example.java");
        Files.writeString(source, "public final class Example {\n"
                + "private static int wrong = 0;\n"
                + "private static void due(String call, int got, int want) {\n"
                + "if (got != want) { wrong++; System.out.println(call + \" answers \" + got + \", not \" + want); }\n"
                + "}\n"
                + "public static void main(String[] args) {\n" + compared + "System.exit(wrong == 0 ? 0 : 1);\n}\n}\n");
        int compiled = ToolProvider.getSystemJavaCompiler().run(null, null, null, "-d", work.toString(),
                "src/main/java/EmberTale.java", source.toString());
        due("the example is compiled", compiled, 0);
        due("the example answers as it says", run(work, "java", "-cp", work.toString(), "Example"), 0);
    }

    private static void commands(List<String> blocks, Path work) throws IOException, InterruptedException {
        due("blocks of commands", blocks.size(), 2);
        for (String block : blocks) {
            due("these commands end well: " + block, run(work, "sh", "-e", "-c", block), 0);
        }
    }

    private static int run(Path work, String... command) throws IOException, InterruptedException {
        ProcessBuilder builder = new ProcessBuilder(command).inheritIO();
        builder.environment().put("TMPDIR", work.toString());
        return builder.start().waitFor();
    }

    /** The calls of the document's face, in its order, with the names of what they take. */
    private static List<String> face() throws IOException {
        List<String> face = new ArrayList<>();
        Matcher call = FACE.matcher(Files.readString(Path.of("../shared/DOC.md")));
        while (call.find()) {
            face.add(call.group(1) + "(" + call.group(2).replace("int ", "") + ")");
        }
        return face;
    }

    private static List<String> tests() throws IOException {
        try (Stream<Path> files = Files.list(Path.of("src/test/java"))) {
            return files.map(file -> file.getFileName().toString().replace(".java", "")).collect(Collectors.toList());
        }
    }

    private static void constants(String readme) {
        List<String> told = new ArrayList<>();
        Matcher row = CONSTANT_ROW.matcher(readme);
        while (row.find()) {
            told.add(row.group(1) + row.group(2));
        }
        due("constants", told, List.of("BAD" + EmberTale.BAD, "NO" + EmberTale.NO, "NONE" + EmberTale.NONE,
                "FULL" + EmberTale.FULL));
    }

    private static void remove(Path work) throws IOException {
        try (Stream<Path> files = Files.walk(work)) {
            files.sorted(Comparator.reverseOrder()).map(Path::toFile).forEach(File::delete);
        }
    }
}
