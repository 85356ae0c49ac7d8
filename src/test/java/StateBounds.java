import java.util.ArrayList;
import java.util.List;

/** The paragraphs "Analysis results" and "Exceptions": what a call discards, and what it keeps. */
final class StateBounds {
    private static final String LEAST = "-2147483648";
    private static final String GREATEST = "2147483647";
    private static final String ANALYSED = Graphs.LOOP + "analyse() = 4; ";
    private static final String WALKING = ANALYSED + "start() = done; step(0) = 1; step(1) = 3; "
            + "start() = done; step(0) = 1; step(0) = 2; step(0) = 1; ";
    private static final String OVER = WALKING + "step(1) = 3; ";

    /**
     * A state and what is to be known of it: the number of nodes, of edges (the first leads from 0
     * to 1; if there are 24, none leads from the last but one node to the exit) and of paths (0 if
     * there is no analysis), the number of edges of the current node (0 if there is no walk, or it
     * is over), and whether the buffer is full. In none of them the buffer is a graph.
     */
    private record State(String calls, int nodes, int edges, int paths, int onward,
            boolean isFull) { }

    private static final State[] STATES = {
        new State("", 2, 0, 0, 0, false),
        new State(Graphs.ONE_EDGE + "text(b:ab,); ", 2, 1, 0, 0, false),
        new State(Graphs.UNFIT + "analyse() = 0; text(c:ab,ab); ", 3, 1, 0, 0, false),
        new State(Graphs.LOOP + "text(zz); ", 4, 4, 0, 0, false),
        new State(ANALYSED + "text(abc); ", 4, 4, 4, 0, false),
        new State(ANALYSED + "start() = done; ", 4, 4, 4, 1, false),
        new State(WALKING + "text(d:); ", 4, 4, 4, 2, false),
        new State(OVER + "text(d:a); ", 4, 4, 4, 0, false),
        new State(OVER + "setWeight(3, 7) = 1; ", 4, 4, 0, 0, false),
        new State(OVER + "setWeight(2, 99) = 1; analyse() = 4; start() = done; step(0) = 1; "
                + Graphs.fill('b', 0, 60), 4, 4, 4, 2, true),
        new State(Graphs.ONE_EDGE + "analyse() = 1; start() = done; step(0) = 1; start() = done; "
                + "step(0) = 1; ", 2, 1, 1, 0, false),
        new State(Graphs.PATHS_200 + "start() = done; step(0) = 1; step(0) = 2; step(0) = 3; ",
                7, 17, 200, 4, false),
        new State(Graphs.PATHS_201 + "text(l); ", 8, 18, 201, 0, false),
        new State(Graphs.dense(24) + "analyse() = 238; " + Graphs.fill('~', 0, 60),
                6, 24, 238, 0, true),
    };

    private StateBounds() { }

    static void play() {
        discarded();
        analysedAnew();
        kept();
        refused();
        firstNamed();
    }

    private static List<String> portrait(String calls) {
        return Portrait.of(new Script("0: portrait").then(calls));
    }

    private static String firstDifference(List<String> got, List<String> want) {
        for (int place = 0; place < Math.min(got.size(), want.size()); place++) {
            if (!got.get(place).equals(want.get(place))) {
                return got.get(place) + " for " + want.get(place);
            }
        }
        return got.size() == want.size() ? "none" : "other numbers of answers";
    }

    /** The calls lead to the same state from both beginnings. */
    private static void same(String beginning, String other, String calls) {
        Script.due("0: a difference after " + calls + "behind " + beginning,
                firstDifference(portrait(beginning + calls), portrait(other + calls)), "none");
    }

    private static void discarded() {
        Sentences.quote(0, "Each call of setNodes, addEdge, setWeight and load that does not");
        for (String beginning : new String[] {ANALYSED, WALKING, OVER}) {
            for (String change : new String[] {"setNodes(4) = done; ", "setNodes(2) = done; ",
                "addEdge(0, 3) = 4; ", "setWeight(0, 1) = 1; ", "setWeight(3, 99) = 1; ",
                "text(b:ab); load() = 1; ", Graphs.LOOP}) {
                same(beginning, Graphs.LOOP, change);
                same(beginning, Graphs.LOOP, change + "analyse() = "
                        + pathsAfter(Graphs.LOOP + change) + "; ");
            }
            same(beginning, Graphs.LOOP, "analyse() = 4; ");
        }
    }

    // An analysis takes nothing over from the graph that was analysed before.
    private static void analysedAnew() {
        Sentences.quote(10, "An earlier analysis, the walk and all counts are discarded");
        String[] graphs = {"setNodes(2) = done; " + Graphs.ONE_EDGE + "analyse() = 1; ",
            ANALYSED, Graphs.LOOP + "setWeight(2, 99) = 1; analyse() = 4; ",
            Graphs.SELF + "analyse() = 4; ",
            "text(c:bb,ab,bc); load() = 3; analyse() = 4; ",
            "text(d:ab,ac,bd,cd); load() = 4; setWeight(3, 99) = 1; analyse() = 2; ",
            "text(c:ac,ab,bc); load() = 3; setWeight(1, 0) = 1; analyse() = 2; ",
            Graphs.CHAIN + "analyse() = 1; ", Graphs.UNFIT + "analyse() = 0; ",
            Graphs.PATHS_200, Graphs.PATHS_201, Graphs.dense(24) + "analyse() = 238; "};
        for (String before : graphs) {
            for (String graph : graphs) {
                same(before, "", graph);
            }
        }
    }

    private static String pathsAfter(String calls) {
        return new Script("0: paths", new Reference()).then(calls).ask("analyse()");
    }

    // Of the calls that answer, only the five above discard; the buffer alone may be another.
    private static void kept() {
        for (String beginning : new String[] {ANALYSED, WALKING, OVER}) {
            for (String call : new String[] {"append(97) = 1; clearInput() = 1; ",
                "clearInput() = 0; ", "firstError() = 0; ", "edgeCount() = 4; ",
                "pathsFrom(0) = 4; ", "isBack(2) = true; ", "value(2, false) = 2; ",
                "increment(2, false) = 2; ", "chords(true) = 3; ", "pathLength(0) = 3; ",
                "pathNode(3, 1) = 3; ", "pathEdge(2, true) = 2; ", "findPath() = -1; "}) {
                same(beginning + call, beginning, "");
            }
        }
        for (String call : new String[] {"current() = 1; ", "register() = 2; ", "count(0) = 1; ",
            "share(0) = 0.5; ", "hottest() = 0; ", "edgeFrequency(1) = 1; "}) {
            same(WALKING + call, WALKING, "");
        }
    }

    private static void refused() {
        Sentences.quote(0, "A call that throws an exception changes nothing");
        for (State state : STATES) {
            List<String> before = portrait(state.calls());
            for (String refusal : refusals(state)) {
                Script.due("0: a difference after " + refusal + "behind " + state.calls(),
                        firstDifference(portrait(state.calls() + refusal), before), "none");
            }
        }
    }

    private static List<String> refusals(State state) {
        List<String> calls = new ArrayList<>();
        refusedGraphs(state, calls);
        refusedTexts(state, calls);
        refusedAnalyses(state, calls);
        refusedPaths(state, calls);
        refusedWalks(state, calls);
        return calls;
    }

    private static void refusedGraphs(State state, List<String> calls) {
        for (String n : new String[] {LEAST, "-1", "0", "1", "13", "14", GREATEST}) {
            calls.add("setNodes(" + n + ")" + Graphs.IAE);
        }
        int exit = state.nodes() - 1;
        for (String from : new String[] {LEAST, "-1", "" + exit, "" + (exit + 1), GREATEST}) {
            calls.add("addEdge(" + from + ", 1)" + Graphs.IAE);
        }
        for (String to : new String[] {LEAST, "-1", "0", "" + (exit + 1), GREATEST}) {
            calls.add("addEdge(0, " + to + ")" + Graphs.IAE);
        }
        if (state.edges() > 0) {
            calls.add("addEdge(0, 1)" + Graphs.IAE);
            for (String weight : new String[] {LEAST, "-1", "100", GREATEST}) {
                calls.add("setWeight(0, " + weight + ")" + Graphs.IAE);
                calls.add("setWeight(" + (state.edges() - 1) + ", " + weight + ")" + Graphs.IAE);
            }
        }
        if (state.edges() == 24) {
            calls.add("addEdge(" + (exit - 1) + ", " + exit + ")" + Graphs.ISE);
        }
        for (String edge : wrong(state.edges())) {
            calls.add("setWeight(" + edge + ", 0)" + Graphs.IOOBE);
            calls.add("setWeight(" + edge + ", 100)" + Graphs.IOOBE);
        }
    }

    private static void refusedTexts(State state, List<String> calls) {
        for (String code : new String[] {LEAST, "-1", "31", "127", GREATEST}) {
            calls.add("append(" + code + ")" + Graphs.IAE);
        }
        if (state.isFull()) {
            calls.add("append(32)" + Graphs.ISE);
            calls.add("append(126)" + Graphs.ISE);
        }
        calls.add("load()" + Graphs.ISE);
    }

    /** Numbers that are just not below a bound, or nowhere near. */
    private static String[] wrong(int bound) {
        return new String[] {LEAST, "-1", "" + bound, "" + (bound + 1), GREATEST};
    }

    private static void refusedAnalyses(State state, List<String> calls) {
        boolean isAnalysed = state.paths() > 0;
        String why = isAnalysed ? Graphs.IOOBE : Graphs.ISE;
        for (String node : wrong(state.nodes())) {
            calls.add("pathsFrom(" + node + ")" + why);
        }
        for (String edge : wrong(state.edges())) {
            calls.add("isBack(" + edge + ")" + why);
            calls.add("value(" + edge + ", true)" + why);
            calls.add("increment(" + edge + ", false)" + why);
            calls.add("edgeFrequency(" + edge + ")" + (state.paths() > 200 ? Graphs.ISE : why));
        }
        if (!isAnalysed) {
            calls.add("pathsFrom(0)" + why);
            calls.add("isBack(0)" + why);
            calls.add("value(0, false)" + why);
            calls.add("increment(0, true)" + why);
            calls.add("chords(true)" + why);
            calls.add("chords(false)" + why);
            calls.add("findPath()" + why);
        }
    }

    private static void refusedPaths(State state, List<String> calls) {
        boolean isAnalysed = state.paths() > 0;
        boolean isCounted = isAnalysed && state.paths() <= 200;
        String why = isAnalysed ? Graphs.IOOBE : Graphs.ISE;
        for (String path : wrong(state.paths())) {
            calls.add("pathLength(" + path + ")" + why);
            calls.add("pathNode(" + path + ", 0)" + why);
            calls.add("pathEdge(" + path + ", true)" + why);
            calls.add("count(" + path + ")" + (isCounted ? Graphs.IOOBE : Graphs.ISE));
            calls.add("share(" + path + ")" + (isCounted ? Graphs.IOOBE : Graphs.ISE));
        }
        for (String index : wrong(12)) {
            calls.add("pathNode(0, " + index + ")" + why);
        }
        if (!isCounted) {
            calls.add("start()" + Graphs.ISE);
            calls.add("count(0)" + Graphs.ISE);
            calls.add("share(0)" + Graphs.ISE);
            calls.add("edgeFrequency(0)" + Graphs.ISE);
        }
    }

    private static void refusedWalks(State state, List<String> calls) {
        for (String index : wrong(state.onward())) {
            calls.add("step(" + index + ")" + (state.onward() > 0 ? Graphs.IOOBE : Graphs.ISE));
        }
    }

    /** Calls for which both exceptions of the throws clause apply, each with the first. */
    private static void firstNamed() {
        String sentence = "If several exceptions apply, the one that is named first";
        String full = Graphs.dense(24);
        Sentences.play(0, sentence,
                full + "addEdge(4, 5)" + Graphs.ISE + "addEdge(4, 4)" + Graphs.IAE + "addEdge(5, 1)"
                + Graphs.IAE + "addEdge(1, 0)" + Graphs.IAE + "addEdge(6, 1)" + Graphs.IAE
                + "addEdge(1, 6)" + Graphs.IAE + "addEdge(-1, 1)" + Graphs.IAE + "addEdge(1, -1)"
                + Graphs.IAE,
                full + "setWeight(24, 100)" + Graphs.IOOBE + "setWeight(-1, -1)" + Graphs.IOOBE
                + "setWeight(23, 100)" + Graphs.IAE + "setWeight(24, 99)" + Graphs.IOOBE,
                "setWeight(0, 100)" + Graphs.IOOBE,
                Graphs.fill('a', 0, 60) + "append(31)" + Graphs.IAE + "append(127)" + Graphs.IAE
                + "append(32)" + Graphs.ISE + "append(126)" + Graphs.ISE);
        for (String call : new String[] {"pathsFrom(4)", "isBack(4)", "value(4, true)",
            "increment(4, false)", "pathLength(4)", "pathNode(4, 0)", "pathNode(0, 4)",
            "pathEdge(4, true)", "count(4)", "share(4)", "edgeFrequency(4)"}) {
            Sentences.play(0, sentence, Graphs.LOOP + call + Graphs.ISE + "analyse() = 4; " + call
                    + Graphs.IOOBE);
        }
        for (String call : new String[] {"count(201)", "share(201)", "edgeFrequency(18)",
            "count(-1)", "share(-1)", "edgeFrequency(-1)"}) {
            Sentences.play(0, sentence, Graphs.PATHS_201 + call + Graphs.ISE);
        }
        Sentences.play(0, sentence, ANALYSED + "step(1)" + Graphs.ISE + "start() = done; step(1)"
                + Graphs.IOOBE + "step(0) = 1; step(1) = 3; step(1)" + Graphs.ISE + "step(-1)"
                + Graphs.ISE);
    }
}
