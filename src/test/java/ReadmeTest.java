import java.io.IOException;
import java.nio.charset.StandardCharsets;
import java.nio.file.Files;
import java.nio.file.Path;
import java.util.regex.Matcher;
import java.util.regex.Pattern;
import javax.tools.ToolProvider;

/** README.md tells the truth: its example answers as it says, and it names every call of the face. */
public final class ReadmeTest extends Due {
    private static final Pattern EXAMPLE = Pattern.compile("(?s)```java\n(.*?)```");
    private static final Pattern CALL = Pattern.compile("(?m)^(x\\.\\w+\\(.*\\)); *// (-?\\d+|true|false)\\b.*$");
    private static final String NAME = "Example";
    private static final int NONE_COMPILED = -1;

    private ReadmeTest() {
        super("ReadmeTest");
    }

    public static void main(String[] args) throws Exception {
        ReadmeTest t = new ReadmeTest();
        t.anew("README.md");
        String page = new String(Files.readAllBytes(Path.of("README.md")), StandardCharsets.UTF_8);
        t.example(page);
        t.calls(page);
        t.finish();
    }

    /** The example is compiled with each call's answer held against what stands behind it. */
    private void example(String page) throws Exception {
        Matcher example = EXAMPLE.matcher(page);
        due("there is an example", example.find(), true);
        String lines = example.group(1).strip();
        Matcher call = CALL.matcher(lines);
        due("lines with an answer", call.results().count(), lines.lines().count() - 1);
        String body = CALL.matcher(lines).replaceAll(m -> Matcher.quoteReplacement(
                "due(" + quoted(m.group(1)) + ", \"\" + " + m.group(1) + ", \"" + m.group(2) + "\");"));
        int wrong = run("public class " + NAME + " { static int wrong;\n"
                + "static void due(String call, String got, String want) { if (!got.equals(want)) { wrong++;"
                + " System.out.println(\"README.md: \" + call + \" answered \" + got + \", told is \" + want); } }\n"
                + "public static int run() {\n" + body + "\nreturn wrong; } }\n");
        due("calls that answer otherwise", wrong, 0);
    }

    private static String quoted(String text) {
        return '"' + text.replace("\\", "\\\\").replace("\"", "\\\"") + '"';
    }

    private static int run(String source) throws Exception {
        Path folder = Files.createTempDirectory("readme");
        Path file = folder.resolve(NAME + ".java");
        try {
            Files.write(file, source.getBytes(StandardCharsets.UTF_8));
            String path = System.getProperty("java.class.path");
            int failed = ToolProvider.getSystemJavaCompiler().run(null, System.out, System.out,
                    "-cp", path, "-d", folder.toString(), file.toString());
            if (failed != 0) {
                return NONE_COMPILED;
            }
            java.net.URL[] place = {folder.toUri().toURL()};
            try (java.net.URLClassLoader loader = new java.net.URLClassLoader(place)) {
                return (Integer) loader.loadClass(NAME).getMethod("run").invoke(null);
            }
        } finally {
            remove(folder);
        }
    }

    private static void remove(Path folder) throws IOException {
        try (java.nio.file.DirectoryStream<Path> files = Files.newDirectoryStream(folder)) {
            for (Path file : files) {
                Files.delete(file);
            }
        }
        Files.delete(folder);
    }

    private void calls(String page) {
        for (String call : FaceTest.FACE.split(" ")) {
            due("README.md names " + call + " in its table", page.contains("`" + call + "`"), true);
        }
    }
}
