import java.io.ByteArrayOutputStream;
import java.io.IOException;
import java.io.PrintStream;
import java.net.URL;
import java.net.URLClassLoader;
import java.nio.file.Files;
import java.nio.file.Path;
import java.util.List;
import java.util.regex.Matcher;
import java.util.regex.Pattern;
import javax.tools.ToolProvider;

/** README.md: its example answers what stands there, and its commands run; from the project's directory. */
public final class ReadmeTest {
    private static final Path PROGRAM = Path.of("src/main/java/GameClock.java");

    private ReadmeTest() {
    }

    public static void main(String[] args) throws Exception {
        String readme = Files.readString(Path.of("README.md"));
        Path place = Files.createTempDirectory("readme");
        exampleAnswersAsTold(readme, place);
        commandsRunOneTest(readme, place);
        Check.end("ReadmeTest");
    }

    private static List<String> blocks(String readme, String kind) {
        Matcher matcher = Pattern.compile("^```" + kind + "\n(.*?)^```$", Pattern.MULTILINE | Pattern.DOTALL)
                .matcher(readme);
        return matcher.results().map(found -> found.group(1)).toList();
    }

    private static void exampleAnswersAsTold(String readme, Path place) throws Exception {
        Check.same("one example", blocks(readme, "java").size(), 1);
        Check.same("one answer", blocks(readme, "text").size(), 1);
        Path example = place.resolve("Example.java");
        Files.writeString(example, blocks(readme, "java").get(0));
        int compiled = ToolProvider.getSystemJavaCompiler().run(null, null, null, "-d", place.toString(),
                PROGRAM.toString(), example.toString());
        Check.same("the example compiles", compiled, 0);
        Check.same("the example", answersOf(place), blocks(readme, "text").get(0));
    }

    private static String answersOf(Path place) throws Exception {
        PrintStream before = System.out;
        ByteArrayOutputStream answers = new ByteArrayOutputStream();
        ClassLoader own = ClassLoader.getPlatformClassLoader();
        try (URLClassLoader loader = new URLClassLoader(new URL[] {place.toUri().toURL()}, own)) {
            System.setOut(new PrintStream(answers));
            loader.loadClass("Example").getMethod("main", String[].class).invoke(null, (Object) new String[0]);
        } finally {
            System.setOut(before);
        }
        return answers.toString().replace("\r\n", "\n");
    }

    /** The first block is .ci/run, which runs this test; each other one runs one test alone. */
    private static void commandsRunOneTest(String readme, Path place) throws IOException, InterruptedException {
        List<String> commands = blocks(readme, "sh");
        Check.same("all tests", commands.get(0).strip(), ".ci/run");
        Check.same(".ci/run is there", Files.isExecutable(Path.of(".ci/run")), true);
        Check.same("one test of each directory", commands.size(), 3);
        for (int i = 1; i < commands.size(); i++) {
            Path own = place.resolve("block" + i);
            Process process = new ProcessBuilder("sh", "-ec", commands.get(i).replace("/tmp/gameclock", own.toString()))
                    .redirectErrorStream(true).start();
            process.getOutputStream().close();
            String said = new String(process.getInputStream().readAllBytes());
            Check.same("exit code of " + commands.get(i) + said, process.waitFor(), 0);
        }
    }
}
