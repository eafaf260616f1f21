import java.io.IOException;
import java.net.URL;
import java.net.URLClassLoader;
import java.nio.charset.StandardCharsets;
import java.nio.file.Files;
import java.nio.file.Path;
import java.util.List;
import java.util.regex.Matcher;
import java.util.regex.Pattern;
import java.util.stream.Stream;
import javax.tools.ToolProvider;

/** Compiles the examples of README.md, each call with the answer that stands behind it there. */
public final class ReadmeTest {
    private static final Pattern BLOCK = Pattern.compile("```java\n(.*?)```", Pattern.DOTALL);
    private static final Pattern CALL = Pattern.compile("^(x\\.|tell\\().*$", Pattern.MULTILINE);
    private static final Pattern ASKED = Pattern.compile("^((?:x\\.|tell\\().*\\)); +// (-?\\d+).*$", Pattern.MULTILINE);

    public static void main(String[] args) throws IOException, ReflectiveOperationException {
        Path main = Path.of(System.getProperty("main", "src/main/java/MovingStair.java")).toAbsolutePath();
        Path readme = main.resolve("../../../../README.md").normalize();
        Matcher blocks = BLOCK.matcher(Files.readString(readme, StandardCharsets.US_ASCII));
        StringBuilder methods = new StringBuilder();
        StringBuilder calls = new StringBuilder();
        while (blocks.find()) {
            (blocks.group(1).startsWith("static ") ? methods : calls).append(blocks.group(1));
        }
        long asked = ASKED.matcher(calls).results().count();
        Check.due("calls with an answer behind them", asked, CALL.matcher(calls).results().count());
        Check.due("there are some", asked > 20 ? 1 : 0, 1);
        run("import java.util.*;\npublic final class Examples {\n" + methods
                + "public static List<Object[]> run() {\nList<Object[]> all = new ArrayList<>();\n"
                + ASKED.matcher(calls).replaceAll(found -> Matcher.quoteReplacement(kept(found.group(1), found.group(2))))
                + "return all;\n}\n}\n");
        Check.finish("ReadmeTest");
    }

    private static String kept(String call, String answer) {
        return "all.add(new Object[] {\"" + call.replace("\"", "\\\"") + "\", (long) " + call + ", " + answer + "L});";
    }

    private static void run(String code) throws IOException, ReflectiveOperationException {
        Path place = Files.createTempDirectory("readme");
        Path source = place.resolve("Examples.java");
        Files.writeString(source, code);
        int refused = ToolProvider.getSystemJavaCompiler().run(null, null, null, "-d", place.toString(),
                "-cp", System.getProperty("java.class.path"), source.toString());
        Check.due("the compiler's answer", refused, 0);
        if (refused == 0) {
            ask(place);
        }
        try (Stream<Path> left = Files.list(place)) {
            left.forEach(file -> file.toFile().delete());
        }
        Files.delete(place);
    }

    private static void ask(Path place) throws IOException, ReflectiveOperationException {
        try (URLClassLoader loader = new URLClassLoader(new URL[] {place.toUri().toURL()}, ReadmeTest.class.getClassLoader())) {
            for (Object one : (List<?>) loader.loadClass("Examples").getMethod("run").invoke(null)) {
                Object[] row = (Object[]) one;
                Check.due((String) row[0], (Long) row[1], (Long) row[2]);
            }
        }
    }
}
