import java.io.IOException;
import java.lang.reflect.Method;
import java.nio.file.Files;
import java.nio.file.Path;
import java.util.regex.Matcher;
import java.util.regex.Pattern;

/** Does what README.md says under "Use": the example, the commands and what they print, as they stand there. */
public final class ReadmeTest {
    private ReadmeTest() {
    }

    public static void main(String[] args) throws Exception {
        Path readme = Path.of(System.getProperty("readme", "README.md")).toAbsolutePath();
        Path checkout = readme.getParent();
        String text = Files.readString(readme);
        Files.createDirectories(checkout.resolve("build"));
        Files.writeString(checkout.resolve("build/Example.java"), block(text, "java"));
        String printed = run(block(text, "sh"), checkout);
        String want = block(text, "text");
        if (!printed.equals(want)) {
            System.out.println("the example prints\n" + printed + "README.md says\n" + want);
        }
        Due.due("the example prints what README.md says", printed.equals(want) ? 1 : 0, 1);
        Due.due("lines that it prints", want.lines().count() > 0 ? 1 : 0, 1);
        everyMethodIsNamed(text);
        Due.end();
    }

    /** The only block of the text with this mark. */
    private static String block(String text, String mark) {
        Matcher m = Pattern.compile("(?ms)^```" + mark + "\\n(.*?)^```$").matcher(text);
        String found = m.find() ? m.group(1) : "";
        Due.due("blocks marked " + mark, (found.isEmpty() ? 0 : 1) + (m.find() ? 1 : 0), 1);
        return found;
    }

    private static String run(String commands, Path where) throws IOException, InterruptedException {
        Process shell = new ProcessBuilder("sh", "-e", "-c", commands).directory(where.toFile())
                .redirectError(ProcessBuilder.Redirect.INHERIT).start();
        String printed = new String(shell.getInputStream().readAllBytes());
        Due.due("how the commands end", shell.waitFor(), 0);
        return printed;
    }

    private static void everyMethodIsNamed(String text) {
        for (Method m : TimeFlood.class.getMethods()) {
            if (m.getDeclaringClass() == TimeFlood.class) {
                Due.due("README.md names " + m.getName(), text.contains("`" + m.getName() + "`") ? 1 : 0, 1);
            }
        }
    }
}
