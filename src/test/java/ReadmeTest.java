import java.io.IOException;
import java.lang.reflect.Field;
import java.lang.reflect.Method;
import java.lang.reflect.Modifier;
import java.nio.charset.StandardCharsets;
import java.nio.file.Files;
import java.nio.file.Path;
import java.util.ArrayList;
import java.util.Comparator;
import java.util.List;
import java.util.TreeSet;
import java.util.regex.Matcher;
import java.util.regex.Pattern;
import java.util.stream.Stream;

/** README.md: its commands work, its example is the file that it names, and it names every call, code and test. */
public final class ReadmeTest {
    private static final Path ROOT = Path.of("").toAbsolutePath();
    /** The one command that is not run here, as it runs this test. */
    private static final String ALL_TESTS = ".ci/run\n";

    private final Due due = new Due("ReadmeTest");
    private final String page;

    private ReadmeTest(String page) {
        this.page = page;
    }

    public static void main(String[] args) throws IOException, InterruptedException {
        ReadmeTest test = new ReadmeTest(read(ROOT.resolve("README.md")));
        test.theExampleIsTheFile();
        test.everyCallIsNamed();
        test.everyCodeIsNamed();
        test.everyTestIsNamed();
        test.theCommandsWork();
        test.due.end();
    }

    private void theExampleIsTheFile() throws IOException {
        due.begin("the example");
        due.isText("its text", blocks("java").toString(), List.of(read(ROOT.resolve("src/example/java/Example.java"))).toString());
    }

    private void everyCallIsNamed() {
        due.begin("the calls");
        for (Method each : PierRings.class.getDeclaredMethods()) {
            if (Modifier.isPublic(each.getModifiers())) {
                due.is(each.getName() + " is named", page.contains("`" + each.getName() + "(") ? 1 : 0, 1);
            }
        }
    }

    private void everyCodeIsNamed() {
        due.begin("the codes");
        for (Field each : PierRings.class.getFields()) {
            due.is(each.getName() + " is named", page.contains("| `" + each.getName() + "` | " + valueOf(each) + " |") ? 1 : 0, 1);
        }
    }

    private static int valueOf(Field constant) {
        try {
            return constant.getInt(null);
        } catch (IllegalAccessException hidden) {
            return 0;
        }
    }

    private void everyTestIsNamed() throws IOException {
        due.begin("the tests");
        TreeSet<String> named = new TreeSet<>();
        Matcher row = Pattern.compile("(?m)^\\| (\\w+Test) \\|").matcher(page);
        while (row.find()) {
            named.add(row.group(1));
        }
        TreeSet<String> there = new TreeSet<>();
        for (Path each : filesIn(ROOT.resolve("src/test/java"))) {
            String name = each.getFileName().toString();
            if (name.endsWith("Test.java")) {
                there.add(name.substring(0, name.length() - ".java".length()));
            }
        }
        due.isText("the table", named.toString(), there.toString());
    }

    /** They are run in a copy, so that nothing stays behind, and nothing that lies there already helps them. */
    private void theCommandsWork() throws IOException, InterruptedException {
        Path copies = Files.createTempDirectory("readme");
        try {
            Path project = copies.resolve("project");
            copy(ROOT.resolve("src"), project.resolve("src"));
            copy(ROOT.resolve("../shared/tests").normalize(), copies.resolve("shared/tests"));
            runAll(blocks("sh"), project);
        } finally {
            delete(copies);
        }
    }

    private void runAll(List<String> commands, Path project) throws IOException, InterruptedException {
        due.begin("the commands");
        due.is("all tests: .ci/run is named", commands.contains(ALL_TESTS) ? 1 : 0, 1);
        due.is("all tests: .ci/run may be run", Files.isExecutable(ROOT.resolve(".ci/run")) ? 1 : 0, 1);
        due.is("there are some", commands.size() > 3 ? 1 : 0, 1);
        for (String each : commands) {
            if (!each.equals(ALL_TESTS) && namesWhatIsThere(each, project)) {
                delete(project.resolve("out"));
                String printed = printedBy(each, project);
                if (each.contains(" Example\n")) {
                    due.isText("what the example prints", List.of(printed).toString(), blocks("text").toString());
                }
            }
        }
    }

    /** The tests under ../shared are not the project's own: they may get other names without this page. */
    private static boolean namesWhatIsThere(String command, Path project) {
        Matcher name = Pattern.compile("\\.\\./shared/tests/\\w+\\.java").matcher(command);
        return !name.find() || Files.exists(project.resolve(name.group()));
    }

    private String printedBy(String command, Path project) throws IOException, InterruptedException {
        ProcessBuilder builder = new ProcessBuilder("sh", "-e", "-c", command);
        builder.directory(project.toFile());
        builder.redirectErrorStream(true);
        Process process = builder.start();
        String printed = new String(process.getInputStream().readAllBytes(), StandardCharsets.UTF_8);
        int code = process.waitFor();
        due.is(command + printed + "exit code", code, 0);
        return printed;
    }

    /** What stands between a line "```" with this kind behind it and the next line "```". */
    private List<String> blocks(String kind) {
        List<String> found = new ArrayList<>();
        StringBuilder block = null;
        for (String line : page.split("\n", -1)) {
            if (block == null && line.equals("```" + kind)) {
                block = new StringBuilder();
            } else if (block != null && line.equals("```")) {
                found.add(block.toString());
                block = null;
            } else if (block != null) {
                block.append(line).append('\n');
            }
        }
        return found;
    }

    private static String read(Path file) throws IOException {
        return Files.readString(file, StandardCharsets.UTF_8);
    }

    private static List<Path> filesIn(Path directory) throws IOException {
        try (Stream<Path> all = Files.walk(directory)) {
            return all.filter(Files::isRegularFile).toList();
        }
    }

    private static void copy(Path from, Path to) throws IOException {
        for (Path each : filesIn(from)) {
            Path target = to.resolve(from.relativize(each).toString());
            Files.createDirectories(target.getParent());
            Files.write(target, Files.readAllBytes(each));
        }
    }

    private static void delete(Path directory) throws IOException {
        if (!Files.exists(directory)) {
            return;
        }
        try (Stream<Path> all = Files.walk(directory)) {
            for (Path each : all.sorted(Comparator.reverseOrder()).toList()) {
                Files.delete(each);
            }
        }
    }
}
