import java.io.ByteArrayOutputStream;
import java.io.IOException;
import java.io.PrintStream;
import java.net.URL;
import java.net.URLClassLoader;
import java.nio.file.Files;
import java.nio.file.Path;
import java.util.regex.Matcher;
import java.util.regex.Pattern;
import java.util.stream.Stream;
import javax.tools.ToolProvider;

/** README.md: it says of every call what the document says of it, and its example runs as it says. */
public final class ReadmeTest {
    private static final int PROMISES = 20;

    public static void main(String[] args) throws Exception {
        String readme = Files.readString(Path.of("README.md"));
        String document = Files.readString(Path.of("..", "shared", "DOC.md"));
        whatItIs(oneLine(readme), oneLine(document));
        everyCall(oneLine(readme), document);
        howTestsAreRun(readme);
        example(readme);
        Check.end();
    }

    private static String oneLine(String text) {
        return text.replaceAll("\\s+", " ");
    }

    private static void holds(String readme, String words) {
        Check.due("README.md says: " + words, readme.contains(words) ? 1 : 0, 1);
    }

    private static void whatItIs(String readme, String document) {
        String[] sentences = {
            "Takes a broadcast stream of packets apart, and puts one together: packets with counts are found among"
                    + " bytes, tables that they carry in checked sections say what is carried where, pieces of"
                    + " sound and picture are gathered with their times, and orders to switch away and back are"
                    + " kept and obeyed when their time comes, round the end of the clock; the other side writes"
                    + " such packets.",
            "An object is used for at most 512 calls after it has been made; what later calls answer is free.",
            "Methods throw what their comments name, the one named first when several would do, and before they"
                    + " would answer NONE; a call that throws, or answers NONE, changes nothing (writeTables()"
                    + " writes all or nothing).",
            "Use of one object from several threads at once is not promised to be safe."
        };
        for (String sentence : sentences) {
            Check.due("the document says: " + sentence, document.contains(sentence) ? 1 : 0, 1);
            holds(readme, sentence);
        }
    }

    /** A call stands in README.md by its name and its parameters, and behind it the whole promise. */
    private static void everyCall(String readme, String document) {
        Matcher promise = Pattern.compile("## Promise \\d+: .*\\n+`([^`]*)`: (.*)").matcher(document);
        int promises = 0;
        while (promise.find()) {
            promises++;
            holds(readme, "- `" + callOf(promise.group(1)) + "`: " + promise.group(2));
        }
        Check.due("promises", promises, PROMISES);
    }

    /** "int feed(int n, long bytes) throws ..." becomes "feed(n, bytes)". */
    private static String callOf(String declaration) {
        String head = declaration.substring(0, declaration.indexOf(')') + 1);
        String name = head.substring(0, head.indexOf('(')).replaceAll(".* ", "");
        String names = head.substring(head.indexOf('(')).replaceAll("\\w+ (\\w+)", "$1");
        return (name.equals("StreamSplitter") ? "new " : "") + name + names;
    }

    private static void howTestsAreRun(String readme) {
        String tests = readme.substring(readme.indexOf("\n## Tests\n") + 1);
        holds(tests, "    .ci/run\n");
        holds(tests, "../shared/tests");
        holds(tests, "src/test/java");
    }

    private static void example(String readme) throws Exception {
        Path room = Files.createTempDirectory("readme");
        try {
            Path source = room.resolve("Example.java");
            Files.writeString(source, block(readme, "java"));
            int code = ToolProvider.getSystemJavaCompiler().run(null, null, null, "-Xlint:all", "-Werror",
                    "-cp", System.getProperty("java.class.path"), "-d", room.toString(), source.toString());
            Check.due("the example's compiler", code, 0);
            if (code == 0) {
                String printed = printedBy(room);
                Check.due("the example prints what stands in README.md, not\n" + printed,
                        printed.equals(block(readme, "text")) ? 1 : 0, 1);
            }
        } finally {
            remove(room);
        }
    }

    private static String block(String readme, String kind) {
        Matcher found = Pattern.compile("```" + kind + "\\n(.*?)```", Pattern.DOTALL).matcher(readme);
        return found.find() ? found.group(1) : "";
    }

    private static String printedBy(Path room) throws Exception {
        ByteArrayOutputStream bytes = new ByteArrayOutputStream();
        PrintStream before = System.out;
        try (URLClassLoader loader = new URLClassLoader(new URL[] {room.toUri().toURL()});
                PrintStream caught = new PrintStream(bytes)) {
            System.setOut(caught);
            loader.loadClass("Example").getMethod("main", String[].class).invoke(null, (Object) new String[0]);
        } finally {
            System.setOut(before);
        }
        return bytes.toString().replace("\r\n", "\n");
    }

    private static void remove(Path room) throws IOException {
        try (Stream<Path> files = Files.list(room)) {
            for (Path file : files.toList()) {
                Files.delete(file);
            }
        }
        Files.delete(room);
    }
}
