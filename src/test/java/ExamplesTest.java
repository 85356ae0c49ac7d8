import java.io.IOException;
import java.nio.file.Files;
import java.nio.file.Path;
import java.util.regex.Pattern;

/** The examples of the document, word for word. */
public final class ExamplesTest {
    private static final Path DOCUMENT = Path.of("../shared/DOC.md");
    private static int found = 0;

    private static void example(String number, String calls) throws IOException {
        Pattern written = Pattern.compile("(?m)^" + number + "\\. [^()]*: " + Pattern.quote(calls)
                + "\\.$");
        Script.due("example " + number + " is the document's",
                written.matcher(Files.readString(DOCUMENT)).find(), true);
        Script.play("example " + number, calls);
        found++;
    }

    public static void main(String[] args) throws IOException {
        example("1", "setNodes(4) = done; addEdge(0, 1) = 0; addEdge(0, 2) = 1; "
                + "addEdge(1, 3) = 2; addEdge(2, 3) = 3; addEdge(1, 2) = 4; analyse() = 3; "
                + "value(4, true) = 1; pathLength(1) = 4; pathNode(1, 2) = 2; start() = done; "
                + "step(0) = 1; step(1) = 2; step(0) = 3; register() = 1; hottest() = 1");
        example("2", "append(99) = 1; append(58) = 2; append(97) = 3; append(98) = 4; "
                + "append(44) = 5; append(98) = 6; append(98) = 7; append(44) = 8; append(98) = 9; "
                + "append(99) = 10; load() = 3; analyse() = 4; isBack(1) = true; "
                + "value(1, true) = 1; value(1, false) = 2; pathEdge(3, false) = 1");
        example("3", "append(99) = 1; append(58) = 2; append(97) = 3; append(98) = 4; "
                + "append(44) = 5; append(98) = 6; append(99) = 7; append(44) = 8; "
                + "load() = throws IllegalStateException; firstError() = 8; "
                + "load() = throws IllegalStateException; clearInput() = 8; analyse() = 0");
        example("4", "setNodes(3) = done; "
                + "addEdge(2, 1) = throws IllegalArgumentException; addEdge(0, 1) = 0; "
                + "analyse() = 0; start() = throws IllegalStateException; addEdge(1, 2) = 1; "
                + "analyse() = 1; step(0) = throws IllegalStateException; start() = done; "
                + "step(1) = throws IndexOutOfBoundsException; share(0) = 0.0");
        Script.due("examples", found, Pattern.compile("(?m)^\\d+\\. ")
                .matcher(Files.readString(DOCUMENT)).results().count());
        Script.end();
    }
}
