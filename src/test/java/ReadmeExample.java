import java.io.File;
import java.io.IOException;
import java.lang.reflect.Method;
import java.lang.reflect.Modifier;
import java.nio.charset.StandardCharsets;
import java.nio.file.DirectoryStream;
import java.nio.file.Files;
import java.nio.file.Path;
import java.util.ArrayList;
import java.util.Arrays;
import java.util.List;
import java.util.regex.Matcher;
import java.util.regex.Pattern;

/** README.md does what it says: its example compiles and prints what stands behind it, and no call or test is left out. */
public final class ReadmeExample {
    private static int wrong = 0;

    private static void is(String what, Object got, Object due) {
        if (!got.equals(due)) {
            wrong++;
            System.out.println(what + ": " + got + ", due is " + due);
        }
    }

    public static void main(String[] args) throws IOException, InterruptedException {
        String readme = Files.readString(Path.of("README.md"));
        example(readme);
        calls(readme);
        tests(readme);
        insides(readme);
        System.out.println(wrong == 0 ? "README.md does what it says" : wrong + " faults of README.md");
        if (wrong != 0) {
            System.exit(1);
        }
    }

    private static void example(String readme) throws IOException, InterruptedException {
        Matcher block = Pattern.compile("(?s)```java\n(.*?)```").matcher(readme);
        is("an example stands there", block.find(), true);
        String code = block.group(1);
        List<String> due = new ArrayList<>();
        Matcher answer = Pattern.compile("System\\.out\\.println\\(.*\\); +// (.*)").matcher(code);
        while (answer.find()) {
            due.add(answer.group(1));
        }
        is("every line printed tells its answer", due.size(), code.split("println", -1).length - 1);
        is("answers are told", due.size() > 20, true);
        is("what the example prints", printed(code), due);
    }

    private static List<String> printed(String code) throws IOException, InterruptedException {
        Path place = Files.createTempDirectory("readme");
        Path source = place.resolve("Example.java");
        Files.writeString(source, code);
        String classes = System.getProperty("java.class.path");
        is("what javac says of the example", run("javac", "-Xlint:all", "-cp", classes, "-d", place.toString(), source.toString()), new ArrayList<>());
        List<String> told = run("java", "-cp", classes + File.pathSeparator + place, "Example");
        Files.deleteIfExists(place.resolve("Example.class"));
        Files.deleteIfExists(source);
        Files.deleteIfExists(place);
        return told;
    }

    private static List<String> run(String... command) throws IOException, InterruptedException {
        Process process = new ProcessBuilder(command).redirectErrorStream(true).start();
        String told = new String(process.getInputStream().readAllBytes(), StandardCharsets.US_ASCII);
        process.waitFor();
        return told.isEmpty() ? new ArrayList<>() : Arrays.asList(told.split("\\R"));
    }

    private static void calls(String readme) {
        for (Method method : BlushCourt.class.getDeclaredMethods()) {
            if (Modifier.isPublic(method.getModifiers())) {
                is("README.md names " + method.getName(), readme.contains("`" + method.getName() + "`"), true);
            }
            for (Class<?> thrown : method.getExceptionTypes()) {
                is("README.md names " + thrown.getSimpleName(), readme.contains("`" + thrown.getSimpleName() + "`"), true);
            }
        }
    }

    private static void tests(String readme) throws IOException {
        int tests = 0;
        try (DirectoryStream<Path> files = Files.newDirectoryStream(Path.of("src/test/java"), "*.java")) {
            for (Path file : files) {
                String name = file.getFileName().toString().replace(".java", "");
                is("README.md names " + name, readme.contains("| `" + name + "` |"), true);
                tests++;
            }
        }
        Matcher row = Pattern.compile("(?m)^\\| `(?:BlushCourt|Edges|Whole|Readme)\\w+` \\|").matcher(readme);
        int named = 0;
        while (row.find()) {
            named++;
        }
        is("tests that README.md names", named, tests);
    }

    private static void insides(String readme) {
        for (Class<?> inside : BlushCourt.class.getDeclaredClasses()) {
            is("README.md names " + inside.getSimpleName(), readme.contains("`" + inside.getSimpleName() + "`"), true);
        }
    }
}
