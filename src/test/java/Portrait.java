import java.util.ArrayList;
import java.util.List;
import java.util.Set;
import java.util.TreeSet;

/**
 * All that an object answers when it is asked, on the bounds and beyond them, and then what it
 * answers to calls that change it. Two objects with one portrait can't be told from each other, not
 * even by what digest leaves out.
 */
final class Portrait {
    private static final String[] CHANGES = {"step(0)", "register()", "step(1)", "register()",
        "hottest()", "start()", "step(0)", "current()", "share(0)", "append(97)", "load()",
        "setWeight(0, 5)", "addEdge(0, 1)", "addEdge(1, 2)", "analyse()", "pathsFrom(1)",
        "clearInput()", "digest()"};

    private final Script script;
    private final List<String> answers = new ArrayList<>();

    private Portrait(Script script) {
        this.script = script;
    }

    static List<String> of(Script script) {
        Portrait portrait = new Portrait(script);
        portrait.ask("digest()", "firstError()", "findPath()", "current()", "register()",
                "hottest()", "chords(false)", "chords(true)");
        portrait.askNodes();
        portrait.askEdges();
        portrait.askPaths();
        portrait.ask(CHANGES);
        return portrait.answers;
    }

    private void ask(String... calls) {
        for (String call : calls) {
            answers.add(call + "=" + script.ask(call));
        }
    }

    private void askNodes() {
        for (int node = -1; node <= 12; node++) {
            ask("pathsFrom(" + node + ")");
        }
    }

    private void askEdges() {
        int edges = Integer.parseInt(script.ask("edgeCount()"));
        answers.add("edges=" + edges);
        for (int edge = 0; edge <= edges; edge++) {
            ask("isBack(" + edge + ")", "value(" + edge + ", true)", "value(" + edge + ", false)",
                    "increment(" + edge + ", true)", "increment(" + edge + ", false)",
                    "edgeFrequency(" + edge + ")");
        }
    }

    private void askPaths() {
        String all = script.ask("pathsFrom(0)");
        int paths = all.startsWith("throws ") ? 0 : Integer.parseInt(all);
        // Not each of many paths, for an object is used for 512 calls alone.
        Set<Integer> some = new TreeSet<>(List.of(0, 1, 2, 3, paths / 2, paths - 1, paths));
        for (int path : some) {
            ask("pathLength(" + path + ")", "pathEdge(" + path + ", true)",
                    "pathEdge(" + path + ", false)", "count(" + path + ")",
                    "share(" + path + ")");
            for (int index = 0; index < 4; index++) {
                ask("pathNode(" + path + ", " + index + ")");
            }
        }
    }
}
