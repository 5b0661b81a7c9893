import java.io.IOException;
import java.net.URL;
import java.net.URLClassLoader;
import java.nio.charset.StandardCharsets;
import java.nio.file.Files;
import java.nio.file.Path;
import java.util.Comparator;
import java.util.List;
import java.util.regex.Matcher;
import java.util.regex.Pattern;
import java.util.stream.Stream;
import javax.tools.ToolProvider;

/** The Java of README.md is compiled and run: each line answers what stands behind it. */
public final class ReadmeTest {
    private static final Check CHECK = new Check();
    private static final Pattern BLOCK = Pattern.compile("(?s)```java\n(.*?)```");
    private static final Pattern ANSWERED = Pattern.compile("(?m)^(\\w.*\\));\\s*// (-?\\d+|true|false): .*$");

    private ReadmeTest() {
    }

    public static void main(String[] args) throws IOException, ReflectiveOperationException {
        String program = program(Files.readString(Path.of("README.md"), StandardCharsets.UTF_8));
        Path room = Files.createTempDirectory("readme");
        try {
            run(room, program);
        } finally {
            empty(room);
        }
        CHECK.end("ReadmeTest");
    }

    /** Called by the lines of the page, once they are compiled. */
    public static void due(String call, long got, long want) {
        CHECK.due(call, got, want);
    }

    public static void due(String call, boolean got, boolean want) {
        CHECK.due(call, got, want);
    }

    private static String program(String page) {
        StringBuilder members = new StringBuilder();
        StringBuilder lines = new StringBuilder();
        Matcher block = BLOCK.matcher(page);
        while (block.find()) {
            (block.group(1).startsWith("static") ? members : lines).append(block.group(1));
        }
        Matcher answered = ANSWERED.matcher(lines);
        String asked = answered.replaceAll(m -> Matcher.quoteReplacement("ReadmeTest.due(\""
                + m.group(1).replace("\"", "'") + "\", " + m.group(1) + ", " + m.group(2) + ");"));
        CHECK.due("lines without an answer to hold them against", asked.contains("//"), false);
        return "public final class Page {\n" + members + "public static void main(String[] args) {\n" + asked + "}\n}\n";
    }

    private static void run(Path room, String program) throws IOException, ReflectiveOperationException {
        Path source = Files.writeString(room.resolve("Page.java"), program);
        int compiled = ToolProvider.getSystemJavaCompiler().run(null, null, null, "-proc:none",
                "-cp", System.getProperty("java.class.path"), "-d", room.toString(), source.toString());
        CHECK.due("the page compiles", compiled, 0);
        if (compiled != 0) {
            return;
        }
        try (URLClassLoader loader = new URLClassLoader(new URL[] {room.toUri().toURL()})) {
            loader.loadClass("Page").getMethod("main", String[].class).invoke(null, (Object) new String[0]);
        }
    }

    private static void empty(Path room) throws IOException {
        try (Stream<Path> all = Files.walk(room)) {
            List<Path> inner = all.sorted(Comparator.reverseOrder()).toList();
            for (Path path : inner) {
                Files.delete(path);
            }
        }
    }
}
