/** The bounds of the paragraph "Graphs" and of the promises 1 to 5. */
final class GraphBounds {
    private static final String IAE = Graphs.IAE;
    private static final String ISE = Graphs.ISE;
    private static final String IOOBE = Graphs.IOOBE;
    private static final String LEAST = "-2147483648";
    private static final String GREATEST = "2147483647";

    private GraphBounds() { }

    static void play() {
        nodes();
        edges();
        weights();
        newObject();
        setNodes();
        addEdge();
        addEdgeThrows();
        setWeight();
        edgeCount();
    }

    private static void nodes() {
        Sentences.play(0, "A graph has n nodes, 2 to 12",
                "setNodes(1)" + IAE + "setNodes(2) = done; setNodes(3) = done",
                "setNodes(11) = done; setNodes(12) = done; setNodes(13)" + IAE,
                Graphs.ONE_EDGE + "analyse() = 1; pathsFrom(-1)" + IOOBE + "pathsFrom(0) = 1; "
                + "pathsFrom(1) = 1; pathsFrom(2)" + IOOBE,
                Graphs.CHAIN + "analyse() = 1; pathsFrom(-1)" + IOOBE + "pathsFrom(0) = 1; "
                + "pathsFrom(11) = 1; pathsFrom(12)" + IOOBE);
        Sentences.play(0, "Node 0 is the entry, node n - 1 is the exit",
                Graphs.ONE_EDGE + "analyse() = 1; start() = done; current() = 0; step(0) = 1; "
                + "step(0)" + ISE,
                Graphs.CHAIN + "analyse() = 1; pathNode(0, 0) = 0; pathNode(0, 11) = 11",
                "setNodes(3) = done; addEdge(0, 1) = 0; addEdge(1, 2) = 1; analyse() = 1; "
                + "start() = done; current() = 0; step(0) = 1; step(0) = 2; step(0)" + ISE);
    }

    private static void edges() {
        Sentences.play(0, "It has at most 24 edges",
                Graphs.dense(23) + "edgeCount() = 23; addEdge(4, 4) = 23; edgeCount() = 24; "
                + "addEdge(4, 5)" + ISE + "edgeCount() = 24",
                "text(" + Graphs.NINETEEN_EDGES + "); load() = 19; addEdge(1, 10) = 19; "
                + "addEdge(1, 11) = 20; addEdge(2, 1) = 21; addEdge(2, 2) = 22; "
                + "addEdge(2, 3) = 23; addEdge(2, 4)" + ISE);
        Sentences.play(0, "No edge leads to the entry",
                "setNodes(4) = done; addEdge(1, 0)" + IAE + "addEdge(1, 1) = 0; addEdge(2, 0)" + IAE
                + "addEdge(0, 0)" + IAE + "addEdge(3, 0)" + IAE,
                "setNodes(4) = done; addEdge(3, 1)" + IAE + "addEdge(3, 2)" + IAE + "addEdge(3, 3)"
                + IAE + "addEdge(2, 1) = 0; addEdge(2, 3) = 1",
                "setNodes(4) = done; addEdge(1, 2) = 0; addEdge(1, 2)" + IAE + "addEdge(2, 1) = 1; "
                + "addEdge(1, 3) = 2; addEdge(0, 2) = 3; addEdge(1, 2)" + IAE + "addEdge(2, 1)"
                + IAE + "addEdge(0, 2)" + IAE + "edgeCount() = 4",
                "text(d:ba); firstError() = 3", "text(d:db); firstError() = 2",
                "text(d:bc,cb,bc); firstError() = 9");
        Sentences.play(0, "An edge may lead from a node to itself",
                "setNodes(3) = done; addEdge(0, 0)" + IAE + "addEdge(1, 1) = 0; addEdge(2, 2)"
                + IAE + "addEdge(1, 1)" + IAE,
                "addEdge(0, 0)" + IAE + "addEdge(1, 1)" + IAE,
                "setNodes(12) = done; addEdge(1, 1) = 0; addEdge(10, 10) = 1; addEdge(11, 11)"
                + IAE,
                "text(c:bb); firstError() = 4; load() = 1",
                Graphs.SELF + "analyse() = 4; start() = done; step(0) = 1; step(0) = 1");
    }

    private static void weights() {
        Sentences.play(0, "Each edge has a weight, 0 to 99",
                Graphs.ONE_EDGE + "setWeight(0, -1)" + IAE + "setWeight(0, 0) = 1; "
                + "setWeight(0, 1) = 0; setWeight(0, 98) = 1; setWeight(0, 99) = 98; "
                + "setWeight(0, 100)" + IAE + "setWeight(0, 99) = 99",
                Graphs.dense(24) + "setWeight(0, 2) = 1; setWeight(23, 3) = 1; "
                + "setWeight(0, 1) = 2; setWeight(23, 1) = 3",
                Graphs.ONE_EDGE + "analyse() = 1; chords(true) = 1; setWeight(0, 0) = 1; "
                + "analyse() = 1; chords(true) = 0; setWeight(0, 99) = 0; analyse() = 1; "
                + "chords(true) = 99");
    }

    private static void newObject() {
        Sentences.play(1, "Creates a profiler",
                "edgeCount() = 0; clearInput() = 0; firstError() = 0; load()" + ISE,
                "addEdge(0, 1) = 0; addEdge(0, 2)" + IAE + "addEdge(1, 1)" + IAE,
                "pathsFrom(0)" + ISE + "chords(true)" + ISE + "pathLength(0)" + ISE + "findPath()"
                + ISE + "start()" + ISE + "step(0)" + ISE + "count(0)" + ISE + "current() = -1; "
                + "register() = 0; hottest() = -1",
                "setWeight(0, 1)" + IOOBE, "analyse() = 0");
        Script busy = new Script("1: an object beside another").then(Graphs.SELF
                + "analyse() = 4; start() = done; step(0) = 1; step(0) = 1; text(ab)");
        Script.play("1: a new object beside a busy one", "edgeCount() = 0; clearInput() = 0; "
                + "current() = -1; hottest() = -1; analyse() = 0; addEdge(0, 1) = 0; "
                + "analyse() = 1; start() = done; step(0) = 1");
        busy.then("edgeCount() = 3; current() = 1; register() = 2; count(1) = 1; clearInput() = 2");
    }

    private static void setNodes() {
        Sentences.play(2, "Replaces the graph by one with n nodes",
                Graphs.dense(24) + "setWeight(0, 50) = 1; setNodes(6) = done; edgeCount() = 0; "
                + "addEdge(0, 1) = 0; setWeight(0, 50) = 1; setWeight(1, 50)" + IOOBE,
                "setNodes(12) = done; addEdge(10, 11) = 0; setNodes(2) = done; edgeCount() = 0; "
                + "addEdge(0, 2)" + IAE + "addEdge(10, 11)" + IAE + "addEdge(0, 1) = 0",
                Graphs.ONE_EDGE + "setNodes(12) = done; edgeCount() = 0; addEdge(0, 11) = 0; "
                + "addEdge(1, 11) = 1; addEdge(0, 12)" + IAE,
                Graphs.ONE_EDGE + "setNodes(2) = done; edgeCount() = 0; analyse() = 0");
        Sentences.play(2, "Throws `IllegalArgumentException`",
                "setNodes(1)" + IAE + "setNodes(2) = done", "setNodes(12) = done; setNodes(13)"
                + IAE, "setNodes(0)" + IAE + "setNodes(-1)" + IAE + "setNodes(-2)" + IAE
                + "setNodes(-12)" + IAE, "setNodes(" + LEAST + ")" + IAE + "setNodes(" + GREATEST
                + ")" + IAE,
                Graphs.LOOP + "setNodes(1)" + IAE + "edgeCount() = 4; setNodes(13)" + IAE
                + "edgeCount() = 4; analyse() = 4");
        for (int n = 2; n <= 12; n++) {
            Script.play("2: " + n + " nodes", "setNodes(" + n + ") = done; addEdge(0, " + (n - 1)
                    + ") = 0; addEdge(0, " + n + ")" + IAE + "addEdge(" + (n - 1) + ", 1)" + IAE);
        }
    }

    private static void addEdge() {
        Sentences.play(3, "Adds an edge",
                "edgeCount() = 0; addEdge(0, 1) = 0; edgeCount() = 1; analyse() = 1",
                "setNodes(3) = done; addEdge(0, 1) = 0; addEdge(1, 2) = 1; analyse() = 1; "
                + "addEdge(1, 1) = 2; analyse() = 4; isBack(2) = true");
        Sentences.play(3, "Returns the number of the edge", Graphs.dense(24),
                "setNodes(3) = done; addEdge(1, 2) = 0; addEdge(2, 1)" + IAE + "addEdge(0, 1) = 1; "
                + "addEdge(0, 2) = 2; setNodes(3) = done; addEdge(0, 2) = 0",
                Graphs.LOOP + "addEdge(0, 2) = 4");
        Sentences.play(3, "Throws `IllegalStateException` if there are 24 edges",
                Graphs.dense(22) + "addEdge(4, 3) = 22; addEdge(4, 4) = 23; addEdge(4, 5)" + ISE
                + "addEdge(4, 5)" + ISE + "edgeCount() = 24",
                Graphs.dense(24) + "addEdge(4, 5)" + ISE + "setNodes(6) = done; addEdge(4, 5) = 0",
                Graphs.dense(24) + "addEdge(4, 5)" + ISE + "text(b:ab); load() = 1; addEdge(0, 1)"
                + IAE);
    }

    private static void addEdgeThrows() {
        String sentence = "Throws `IllegalArgumentException` if from or to is not a node";
        Sentences.play(3, sentence,
                "addEdge(-1, 1)" + IAE + "addEdge(0, 1) = 0; addEdge(1, 1)" + IAE + "addEdge(2, 1)"
                + IAE,
                "addEdge(0, -1)" + IAE + "addEdge(0, 0)" + IAE + "addEdge(0, 2)" + IAE
                + "addEdge(0, 1) = 0",
                "addEdge(0, 1) = 0; addEdge(0, 1)" + IAE + "edgeCount() = 1",
                "setNodes(12) = done; addEdge(-1, 1)" + IAE + "addEdge(0, 1) = 0; addEdge(10, 1) "
                + "= 1; addEdge(11, 1)" + IAE + "addEdge(12, 1)" + IAE,
                "setNodes(12) = done; addEdge(1, -1)" + IAE + "addEdge(1, 0)" + IAE
                + "addEdge(1, 1) = 0; addEdge(1, 11) = 1; addEdge(1, 12)" + IAE);
        for (String wild : new String[] {LEAST, GREATEST}) {
            Sentences.play(3, sentence, "setNodes(12) = done; addEdge(" + wild + ", 1)" + IAE
                    + "addEdge(1, " + wild + ")" + IAE + "addEdge(" + wild + ", " + wild + ")"
                    + IAE);
        }
        // Each of the 24 edges is met again, the first and the last too.
        StringBuilder again = new StringBuilder(Graphs.dense(24));
        for (int from = 0; from < 5; from++) {
            for (int to = 1; to < (from == 4 ? 5 : 6); to++) {
                again.append("addEdge(" + from + ", " + to + ")" + IAE);
            }
        }
        Sentences.play(3, sentence, again.append("edgeCount() = 24").toString());
    }

    private static void setWeight() {
        Sentences.play(4, "Sets the weight of an edge",
                Graphs.LOOP + "setWeight(3, 40) = 1; setWeight(2, 30) = 1; setWeight(1, 20) = 1; "
                + "setWeight(0, 10) = 1; setWeight(0, 0) = 10; setWeight(1, 0) = 20; "
                + "setWeight(2, 0) = 30; setWeight(3, 0) = 40; edgeCount() = 4");
        Sentences.play(4, "Returns the previous weight",
                Graphs.ONE_EDGE + "setWeight(0, 1) = 1; setWeight(0, 0) = 1; setWeight(0, 0) = 0; "
                + "setWeight(0, 99) = 0; setWeight(0, 99) = 99; setWeight(0, 100)" + IAE
                + "setWeight(0, 7) = 99");
        Sentences.play(4, "Throws `IndexOutOfBoundsException` if the edge does not exist",
                "setWeight(-1, 5)" + IOOBE + "setWeight(0, 5)" + IOOBE + "setWeight(1, 5)" + IOOBE
                + Graphs.ONE_EDGE + "setWeight(-1, 5)" + IOOBE + "setWeight(0, 5) = 1; "
                + "setWeight(1, 5)" + IOOBE,
                Graphs.dense(23) + "setWeight(22, 5) = 1; setWeight(23, 5)" + IOOBE,
                Graphs.dense(24) + "setWeight(23, 5) = 1; setWeight(24, 5)" + IOOBE
                + "setWeight(25, 5)" + IOOBE,
                Graphs.dense(24) + "setNodes(2) = done; setWeight(0, 5)" + IOOBE,
                Graphs.ONE_EDGE + "setWeight(" + LEAST + ", 5)" + IOOBE + "setWeight(" + GREATEST
                + ", 5)" + IOOBE);
        Sentences.play(4, "Throws `IllegalArgumentException` if weight is not 0 to 99",
                Graphs.ONE_EDGE + "setWeight(0, -1)" + IAE + "setWeight(0, 0) = 1; "
                + "setWeight(0, 1) = 0",
                Graphs.ONE_EDGE + "setWeight(0, 98) = 1; setWeight(0, 99) = 98; setWeight(0, 100)"
                + IAE + "setWeight(0, 0) = 99",
                Graphs.ONE_EDGE + "setWeight(0, " + LEAST + ")" + IAE + "setWeight(0, " + GREATEST
                + ")" + IAE + "setWeight(0, 0) = 1");
    }

    private static void edgeCount() {
        Sentences.play(5, "Returns the number of edges",
                "edgeCount() = 0; addEdge(0, 1) = 0; edgeCount() = 1; addEdge(0, 1)" + IAE
                + "edgeCount() = 1; setNodes(2) = done; edgeCount() = 0",
                Graphs.dense(23) + "edgeCount() = 23; addEdge(4, 4) = 23; edgeCount() = 24; "
                + "addEdge(4, 5)" + ISE + "edgeCount() = 24",
                Graphs.ONE_EDGE + "text(d:ab,bc,cb,bd); edgeCount() = 1; load() = 4; "
                + "edgeCount() = 4; text(d:ab,); load()" + ISE + "edgeCount() = 4");
    }
}
