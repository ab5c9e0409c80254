import java.io.ByteArrayOutputStream;
import java.io.PrintStream;
import java.lang.reflect.Method;
import java.lang.reflect.Modifier;
import java.net.URL;
import java.net.URLClassLoader;
import java.nio.file.Files;
import java.nio.file.Path;
import java.util.ArrayList;
import java.util.List;
import java.util.regex.Matcher;
import java.util.regex.Pattern;
import javax.tools.ToolProvider;

/** README.md: its example answers as it says there, and each method stands in its table by its promise's number. */
public final class ReadmeTest {
    private static String part(Pattern pattern, String text) {
        Matcher found = pattern.matcher(text);
        return found.find() ? found.group(1) : "";
    }

    /** What stands behind // in the lines that print. */
    private static List<String> said(String example) {
        List<String> answers = new ArrayList<>();
        Matcher found = Pattern.compile("println\\(.*?\\);\\s*// (true|false|-?\\d+)").matcher(example);
        while (found.find()) {
            answers.add(found.group(1));
        }
        return answers;
    }

    private static List<String> printed(Path folder) throws Exception {
        ByteArrayOutputStream bytes = new ByteArrayOutputStream();
        PrintStream out = System.out;
        URL[] places = {folder.toUri().toURL()};
        try (URLClassLoader loader = new URLClassLoader(places)) {
            System.setOut(new PrintStream(bytes, true));
            Object none = new String[0];
            loader.loadClass("Example").getMethod("main", String[].class).invoke(null, none);
        } finally {
            System.setOut(out);
        }
        return bytes.toString().lines().toList();
    }

    private static void example(String readme) throws Exception {
        String example = part(Pattern.compile("```java\n(.*?)```", Pattern.DOTALL), readme);
        Path folder = Files.createTempDirectory("readme");
        Path file = folder.resolve("Example.java");
        Files.writeString(file, example);
        int compiled = ToolProvider.getSystemJavaCompiler().run(null, null, null,
                "-cp", System.getProperty("java.class.path"), "-d", folder.toString(), file.toString());
        Check.due("the example is compiled", compiled, 0);
        List<String> due = said(example);
        List<String> got = compiled == 0 ? printed(folder) : List.of();
        Check.due("answers of the example", got.size(), due.size());
        Check.due("there are some", due.size() > 9, true);
        for (int i = 0; i < Math.min(got.size(), due.size()); i++) {
            Check.due("answer " + i + ", " + got.get(i) + ", is as README.md says: " + due.get(i),
                    got.get(i).equals(due.get(i)), true);
        }
        for (Path left : List.of(file, folder.resolve("Example.class"), folder)) {
            Files.deleteIfExists(left);
        }
    }

    private static void table(String readme, String document) {
        for (Method method : ExtraGuest.class.getDeclaredMethods()) {
            if (Modifier.isPublic(method.getModifiers())) {
                String name = method.getName();
                String promise = part(Pattern.compile("## Promise (\\d+): " + name + "\n"), document);
                String row = "\\| " + promise + " \\| `" + name + "\\([a-z, ]*\\)` \\| [^|]+ \\| [^|]+ \\|\n";
                Check.due("a row for " + name, Pattern.compile(row).matcher(readme).find(), true);
            }
        }
    }

    public static void main(String[] args) throws Exception {
        String readme = Files.readString(Path.of("README.md"));
        example(readme);
        table(readme, Files.readString(Path.of("../shared/DOC.md")));
        Check.end();
    }
}
