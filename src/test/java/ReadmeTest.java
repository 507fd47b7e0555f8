import java.net.URL;
import java.net.URLClassLoader;
import java.nio.file.Files;
import java.nio.file.Path;
import java.util.regex.Matcher;
import java.util.regex.Pattern;
import javax.tools.ToolProvider;

/** The Java examples of README.md, compiled and run as they stand: each "// answer" behind a call must be the answer. */
public final class ReadmeTest {
    private static final Pattern BLOCK = Pattern.compile("```java\n(.*?)```", Pattern.DOTALL);
    private static final Pattern CALL = Pattern.compile("(?m)^(x\\.\\w+\\(.*\\)); // (\\S+)$");
    private static final int LEAST_ANSWERS = 25;

    public static void main(String[] args) throws Exception {
        Matcher block = BLOCK.matcher(Files.readString(Path.of("README.md")));
        StringBuilder helpers = new StringBuilder();
        StringBuilder body = new StringBuilder();
        while (block.find()) {
            (block.group(1).startsWith("static ") ? helpers : body).append(block.group(1));
        }
        Matcher call = CALL.matcher(body);
        long answers = call.results().count();
        boolean allSeen = answers == Pattern.compile("//").matcher(body).results().count();
        String lines = call.replaceAll(m -> Matcher.quoteReplacement(
            "due(\"" + m.group(1) + "\", " + m.group(1) + ", " + m.group(2).replace("NONE", "MirrorLies.NONE") + ");"));
        Path work = Files.createTempDirectory("readme");
        int wrong = answers < LEAST_ANSWERS || !allSeen ? 1 : run(work, source(helpers.toString(), lines));
        System.out.println("ReadmeTest: " + answers + " answers, " + wrong + " not as due");
        if (wrong != 0) {
            System.exit(1);
        }
    }

    private static String source(String helpers, String lines) {
        return "public final class Example {\n" + helpers
            + "static int wrong;\n"
            + "static void due(String call, Object got, Object want) {\n"
            + "if (!got.equals(want)) { wrong++; System.out.println(\"README.md: \" + call + \" answered \" + got); }\n"
            + "}\n"
            + "public static int run() {\n" + lines + "return wrong;\n}\n}\n";
    }

    private static int run(Path work, String source) throws Exception {
        Path file = work.resolve("Example.java");
        Files.writeString(file, source);
        String classes = System.getProperty("java.class.path");
        int compiled = ToolProvider.getSystemJavaCompiler().run(null, null, null, "-cp", classes, "-d", work.toString(),
            file.toString());
        if (compiled != 0) {
            return 1;
        }
        try (URLClassLoader loader = new URLClassLoader(new URL[] {work.toUri().toURL()})) {
            return (int) loader.loadClass("Example").getMethod("run").invoke(null);
        } finally {
            Files.deleteIfExists(work.resolve("Example.class"));
            Files.deleteIfExists(file);
            Files.deleteIfExists(work);
        }
    }
}
