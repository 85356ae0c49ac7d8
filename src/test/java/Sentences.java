import java.io.IOException;
import java.nio.file.Files;
import java.nio.file.Path;
import java.util.ArrayList;
import java.util.HashSet;
import java.util.LinkedHashSet;
import java.util.List;
import java.util.Set;

/**
 * Sees to it that each sentence of the document has a test: a test quotes how its sentence begins,
 * and at the end no sentence may be left that nobody has quoted. Sentences of the description have
 * the number 0, those of a promise have the promise's number.
 */
final class Sentences {
    private static final Path DOCUMENT = Path.of("../shared/DOC.md");
    private static final int PROMISES = 28;
    private static final List<Set<String>> all = read();
    private static final Set<String> quoted = new HashSet<>();

    private Sentences() { }

    private static List<Set<String>> read() {
        String text;
        try {
            text = Files.readString(DOCUMENT);
        } catch (IOException e) {
            throw new AssertionError(e);
        }
        List<Set<String>> found = new ArrayList<>();
        found.add(split(text.substring(text.indexOf("## Description"), text.indexOf("Examples:"))));
        String promises = text.substring(text.indexOf("## Promise 1:"),
                text.indexOf("## Not promised"));
        for (String promise : promises.split("(?m)^(?=## Promise )")) {
            found.add(split(promise));
        }
        return found;
    }

    private static Set<String> split(String section) {
        Set<String> sentences = new LinkedHashSet<>();
        for (String line : section.split("\n")) {
            // Headings, signatures and the lists of parameters are no sentences.
            if (!line.matches("(#|`|-).*")) {
                for (String sentence : line.split("(?<=\\.) ")) {
                    if (!sentence.isBlank() && !isTitle(sentence)) {
                        sentences.add(sentence);
                    }
                }
            }
        }
        return sentences;
    }

    // The description's paragraphs have titles of one word or two; "Adds an edge." has three.
    private static boolean isTitle(String sentence) {
        return sentence.split(" ").length <= 2;
    }

    /** Plays runs, each on a new object, that show what the sentence with this beginning says. */
    static void play(int promise, String beginning, String... runs) {
        quote(promise, beginning);
        for (String run : runs) {
            Script.play(promise + ": " + beginning, run);
        }
    }

    /** A call that throws without an analysis, and has this answer for SELF, analysed. */
    static void needsAnalysis(int promise, String call, String answer) {
        String sentence = "Throws `IllegalStateException` if there is no analysis";
        play(promise, sentence, call + Graphs.ISE + "analyse() = 0; " + call + Graphs.ISE,
                Graphs.UNFIT + "analyse() = 0; " + call + Graphs.ISE,
                Graphs.SELF + call + Graphs.ISE + "analyse() = 4; " + call + " = " + answer + "; "
                + call + " = " + answer);
        for (String change : new String[] {"setNodes(3) = done; ", "addEdge(0, 2) = 3; ",
            "setWeight(0, 1) = 1; ", Graphs.SELF}) {
            play(promise, sentence, Graphs.SELF + "analyse() = 4; " + change + call + Graphs.ISE);
        }
    }

    /** A call that throws for more than 200 paths too, and has this answer for 200. */
    static void needsCounts(int promise, String call, String answer) {
        needsAnalysis(promise, call, answer);
        play(promise, "Throws `IllegalStateException` if there is no analysis, or if there are "
                + "more than 200 paths", Graphs.PATHS_199 + call + " = " + answer,
                Graphs.PATHS_200 + call + " = " + answer, Graphs.PATHS_201 + call + Graphs.ISE,
                Graphs.dense(24) + "analyse() = 238; " + call + Graphs.ISE,
                Graphs.manyPaths() + call + Graphs.ISE,
                Graphs.PATHS_201 + Graphs.SELF + "analyse() = 4; " + call + " = " + answer,
                Graphs.PATHS_200 + "clearInput() = 0; " + Graphs.PATHS_201 + call + Graphs.ISE);
    }

    static void quote(int promise, String beginning) {
        List<String> meant = new ArrayList<>();
        for (String sentence : all.get(promise)) {
            if (sentence.startsWith(beginning)) {
                meant.add(sentence);
                quoted.add(promise + ": " + sentence);
            }
        }
        Script.due(promise + ": sentences that begin with \"" + beginning + "\"", meant.size(), 1);
    }

    static void end() {
        Script.due("promises of the document", all.size() - 1, PROMISES);
        for (int promise = 0; promise < all.size(); promise++) {
            for (String sentence : all.get(promise)) {
                String name = promise + ": " + sentence;
                Script.due("a test for " + name, quoted.contains(name), true);
            }
        }
        Script.end();
    }
}
