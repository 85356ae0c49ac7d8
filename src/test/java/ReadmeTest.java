import java.io.IOException;
import java.nio.file.Files;
import java.nio.file.Path;
import java.util.regex.Matcher;
import java.util.regex.Pattern;

/** Plays the example of README.md, and looks that README.md names each method of the class. */
public final class ReadmeTest {
    private static final Path README = Path.of("README.md");
    private static final Path DOCUMENT = Path.of("../shared/DOC.md");
    private static final int CALLS = 12;

    private static void playExample(String text) {
        Matcher graph = Pattern.compile("\"([^\"]*)\"\\.toCharArray\\(\\)").matcher(text);
        Script.due("a graph in the example", graph.find(), true);
        Script script = new Script("README").write(graph.group(1));
        Matcher row = Pattern.compile("(?m)^profiler\\.(\\w+\\([^)]*\\)); +// ([^:]+): ")
                .matcher(text);
        int calls = 0;
        while (row.find()) {
            script.then(row.group(1) + " = " + row.group(2));
            calls++;
        }
        Script.due("calls of the example", calls, CALLS);
    }

    private static void namesAllMethods(String text, String document) {
        Matcher promise = Pattern.compile("(?m)^## Promise \\d+: (\\w+)$").matcher(document);
        int named = 0;
        while (promise.find()) {
            Script.due("README names " + promise.group(1),
                    text.contains("`" + promise.group(1) + "`"), true);
            named++;
        }
        Script.due("promises that are methods", named, 27);
    }

    public static void main(String[] args) throws IOException {
        String text = Files.readString(README);
        playExample(text);
        namesAllMethods(text, Files.readString(DOCUMENT));
        Script.end();
    }
}
