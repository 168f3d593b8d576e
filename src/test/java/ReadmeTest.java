import java.io.IOException;
import java.lang.reflect.Method;
import java.nio.file.Files;
import java.nio.file.Path;
import java.util.ArrayList;
import java.util.List;
import java.util.regex.Matcher;
import java.util.regex.Pattern;

/** What README.md says, done as it is written there. It is run by .ci/run, from the project's directory. */
public final class ReadmeTest {
    // It runs this test, too.
    private static final String ALL_TESTS = ".ci/run";

    public static void main(String[] args) throws Exception {
        String readme = Files.readString(Path.of("README.md"));
        exampleAndCommands(readme);
        everyCallIsNamed(readme);
        everyTestIsNamed(readme);
        Due.end();
    }

    private static void exampleAndCommands(String readme) throws IOException, InterruptedException {
        List<String> examples = blocks(readme, "java");
        List<String> commands = blocks(readme, "sh");
        Due.is("one example", examples.size(), 1);
        Due.is("commands to use it, to run all tests, to run one", commands.size(), 3);
        Due.is("the example's file is told", readme.contains("in the file `build/Hall.java`"), true);
        Files.createDirectories(Path.of("build"));
        Files.writeString(Path.of("build/Hall.java"), examples.get(0));
        Due.is("the example prints", run(commands.get(0)), prints(examples.get(0)));
        Due.is("all tests", commands.get(1), ALL_TESTS + "\n");
        Due.is("all tests can be run", Files.isExecutable(Path.of(ALL_TESTS)), true);
        for (String command : commands.get(2).split("\n")) {
            Due.is(command + " passes", run(command).endsWith("exit code 0"), true);
        }
    }

    private static List<String> blocks(String readme, String language) {
        List<String> found = new ArrayList<>();
        Matcher block = Pattern.compile("(?ms)^```" + language + "\n(.*?)^```$").matcher(readme);
        while (block.find()) {
            found.add(block.group(1));
        }
        return found;
    }

    private static String prints(String example) {
        StringBuilder text = new StringBuilder();
        Matcher told = Pattern.compile("println\\(.*\\); // prints (.*)").matcher(example);
        while (told.find()) {
            text.append(told.group(1)).append('\n');
        }
        Due.is("each println tells what it prints", text.toString().split("\n").length, example.split("println").length - 1);
        return text + "exit code 0";
    }

    private static String run(String commands) throws IOException, InterruptedException {
        Process process = new ProcessBuilder("sh", "-e", "-c", commands).redirectErrorStream(true).start();
        process.getOutputStream().close();
        String printed = new String(process.getInputStream().readAllBytes());
        return printed + "exit code " + process.waitFor();
    }

    private static void everyCallIsNamed(String readme) {
        String calls = part(readme, "| to | call |");
        for (Method method : Greenwheels.class.getMethods()) {
            if (method.getDeclaringClass() == Greenwheels.class) {
                Due.is(method.getName() + " is named", calls.contains("`" + method.getName() + "`"), true);
                Due.is(method.getName() + " is named once", calls.split("`" + method.getName() + "`", -1).length, 2);
            }
        }
        Due.is("no other calls are named", calls.split("`", -1).length - 1, 2 * 24);
    }

    private static void everyTestIsNamed(String readme) throws IOException {
        String rows = part(readme, "| test | what it looks at |");
        int tests = 0;
        try (var files = Files.newDirectoryStream(Path.of("src/test/java"), "*.java")) {
            for (Path file : files) {
                String name = file.getFileName().toString().replace(".java", "");
                Due.is(name + " is named", readme.contains("`" + name + "`"), true);
                if (name.endsWith("Test")) {
                    tests++;
                    Due.is(name + " has its row", rows.contains("\n| `" + name + "` |"), true);
                }
            }
        }
        Due.is("rows of tests", rows.split("\n").length - 2, tests);
    }

    /** From these words up to the next empty line. */
    private static String part(String readme, String start) {
        int from = readme.indexOf(start);
        Due.is(start + " is there", from >= 0, true);
        return from < 0 ? "" : readme.substring(from, readme.indexOf("\n\n", from));
    }
}
