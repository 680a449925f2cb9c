import java.io.IOException;
import java.nio.charset.StandardCharsets;
import java.nio.file.Files;
import java.nio.file.Path;
import java.util.ArrayList;
import java.util.List;
import java.util.regex.Matcher;
import java.util.regex.Pattern;
import javax.tools.ToolProvider;

/** The program in README.md compiles, and prints the answers that stand behind its calls. */
public final class ReadmeTest {
    private static final Pattern PROGRAM = Pattern.compile("(?s)```java\n(.*?)```");
    private static final Pattern TOLD = Pattern.compile("tell\\(house\\..*// (-?\\d+)");

    public static void main(String[] args) throws Exception {
        Matcher program = PROGRAM.matcher(Files.readString(Path.of("README.md")));
        Due.is("there is a program", program.find(), true);
        String source = program.group(1);
        List<String> want = answersDue(source);
        List<String> got = answersOf(source);
        Due.is("answers told", want.size() > 20, true);
        Due.is("answers printed", got.size(), want.size());
        for (int i = 0; i < Math.min(got.size(), want.size()); i++) {
            Due.is("answer " + i, Long.parseLong(got.get(i)), Long.parseLong(want.get(i)));
        }
        Due.close();
    }

    private static List<String> answersDue(String source) {
        List<String> answers = new ArrayList<>();
        Matcher told = TOLD.matcher(source);
        while (told.find()) {
            answers.add(told.group(1));
        }
        return answers;
    }

    private static List<String> answersOf(String source) throws IOException, InterruptedException {
        Path place = Files.createDirectories(Path.of("build", "readme"));
        Path file = place.resolve("Day.java");
        Files.writeString(file, source);
        String classes = System.getProperty("java.class.path");
        int compiled = ToolProvider.getSystemJavaCompiler().run(null, null, null, "-proc:none", "-cp", classes,
            "-d", place.toString(), file.toString());
        Due.is("the compiler", compiled, 0);
        String java = Path.of(System.getProperty("java.home"), "bin", "java").toString();
        String path = classes + System.getProperty("path.separator") + place;
        Process process = new ProcessBuilder(java, "-cp", path, "Day").redirectErrorStream(true).start();
        String printed = new String(process.getInputStream().readAllBytes(), StandardCharsets.ISO_8859_1);
        Due.is("the program", process.waitFor(), 0);
        return printed.lines().toList();
    }
}
