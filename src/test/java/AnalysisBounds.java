/** The bounds of "Back edges", "Acyclic paths" and "Increments" and of the promises 10 to 15. */
final class AnalysisBounds {
    private static final String ISE = Graphs.ISE;
    private static final String IOOBE = Graphs.IOOBE;
    private static final String LOOP = Graphs.LOOP + "analyse() = 4; ";
    private static final String SELF = Graphs.SELF + "analyse() = 4; ";
    private static final String DIAMOND = "text(d:ab,ac,bd,cd); load() = 4; ";
    // With the back edge cb heavy its links are the tree: b has the potential 2, c has 0.
    private static final String HEAVY_LOOP = Graphs.LOOP + "setWeight(2, 99) = 1; analyse() = 4; ";

    private AnalysisBounds() { }

    static void play() {
        backEdges();
        fitGraphs();
        links();
        paths();
        tree();
        treeOrder();
        increments();
        analyse();
        pathsFrom();
        isBack();
        value();
        increment();
        chords();
    }

    private static void backEdges() {
        Sentences.play(0, "A depth-first search begins at the entry",
                "text(d:ab,ac,bc,cb,bd); load() = 5; analyse() = 5; isBack(2) = false; "
                + "isBack(3) = true",
                "text(d:ac,ab,bc,cb,bd); load() = 5; analyse() = 6; isBack(2) = true; "
                + "isBack(3) = false",
                "text(d:bc,cb,bd,ac,ab); load() = 5; analyse() = 6; isBack(0) = true; "
                + "isBack(1) = false");
        Sentences.play(0, "An edge is a back edge if its target is on the current search path",
                SELF + "isBack(0) = false; isBack(1) = true; isBack(2) = false",
                "text(l:ab,bc,cd,de,ef,fg,gh,hi,ij,jk,kl,kb,kk,kj); load() = 14; analyse() = 16; "
                + "isBack(9) = false; isBack(10) = false; isBack(11) = true; isBack(12) = true; "
                + "isBack(13) = true",
                "text(d:ab,ac,bd,cb); load() = 4; analyse() = 2; isBack(3) = false");
        Sentences.play(0, "All other edges are forward edges",
                "text(d:ab,bc,cd,ac,bd); load() = 5; analyse() = 3; isBack(0) = false; "
                + "isBack(1) = false; isBack(2) = false; isBack(3) = false; isBack(4) = false");
    }

    private static void fitGraphs() {
        Sentences.play(0, "The graph can be analysed if every node can be reached",
                "analyse() = 0; addEdge(0, 1) = 0; analyse() = 1",
                "text(c:ac,bc); load() = 2; analyse() = 0; addEdge(0, 1) = 2; analyse() = 2",
                "text(c:ac,ab); load() = 2; analyse() = 0; addEdge(1, 2) = 2; analyse() = 2",
                "text(c:ab,bb); load() = 2; analyse() = 0; addEdge(1, 2) = 2; analyse() = 4",
                "text(d:ab,bd,bc,cc); load() = 4; analyse() = 0; addEdge(2, 1) = 4; analyse() = 8",
                "text(e:ab,be,bc,cd,dc); load() = 5; analyse() = 0; addEdge(3, 1) = 5; "
                + "analyse() = 8",
                "text(e:ae,bc,cd,db,de); load() = 5; analyse() = 0; addEdge(0, 1) = 5; "
                + "analyse() = 5",
                LOOP);
        for (int missing = 0; missing < 11; missing++) {
            StringBuilder chain = new StringBuilder("setNodes(12) = done; ");
            int edge = 0;
            for (int node = 0; node < 11; node++) {
                if (node != missing) {
                    chain.append("addEdge(" + node + ", " + (node + 1) + ") = " + edge + "; ");
                    edge++;
                }
            }
            Script.play("0: a chain without the edge from " + missing, chain + "analyse() = 0; "
                    + "pathsFrom(0)" + ISE + "addEdge(" + missing + ", " + (missing + 1)
                    + ") = 10; analyse() = 1; pathLength(0) = 12");
        }
    }

    private static void links() {
        Sentences.play(0, "The back edges are removed",
                SELF + "value(1, true) = 1; value(1, false) = 2; chords(false) = 3",
                "text(d:ab,bc,cb,cc,bd); load() = 5; analyse() = 8; chords(false) = 5; "
                + "pathEdge(6, false) = 3; pathEdge(6, true) = 2; pathNode(6, 0) = 2");
        Sentences.play(0, "The successors of a node are links in this order",
                "text(e:ab,bb,bc,cb,bd,db,be); load() = 7; analyse() = 16; value(2, true) = 0; "
                + "value(4, true) = 1; value(6, true) = 2; value(1, true) = 3; value(0, true) = 0; "
                + "value(1, false) = 4; value(3, false) = 8; value(5, false) = 12",
                "text(c:bb,bc,ab,ac); load() = 4; analyse() = 5; value(1, true) = 0; "
                + "value(0, true) = 1; value(2, true) = 0; value(3, true) = 2; value(0, false) = 3",
                "text(d:ab,bc,cc,cb,bd); load() = 5; analyse() = 8; value(2, true) = 0; "
                + "value(3, true) = 1; value(2, false) = 3; value(3, false) = 5");
        Sentences.play(0, "The value of a link is the sum",
                Graphs.ONE_EDGE + "analyse() = 1; value(0, true) = 0",
                Graphs.fan() + "analyse() = 11; value(0, true) = 0; value(1, true) = 1; "
                + "value(9, true) = 9; value(10, true) = 10; value(11, true) = 0",
                DIAMOND + "analyse() = 2; value(0, true) = 0; value(1, true) = 1; "
                + "value(2, true) = 0; value(3, true) = 0");
    }

    private static void paths() {
        Sentences.play(0, "A path is a sequence of links from the entry to the exit",
                Graphs.ONE_EDGE + "analyse() = 1; pathLength(0) = 2; pathNode(0, 0) = 0; "
                + "pathNode(0, 1) = 1",
                SELF + "pathLength(3) = 1; pathEdge(3, false) = 1; pathEdge(3, true) = 1",
                Graphs.CHAIN + "analyse() = 1; pathLength(0) = 12");
        Sentences.play(0, "The number of paths from the exit is 1",
                Graphs.ONE_EDGE + "analyse() = 1; pathsFrom(1) = 1; pathsFrom(0) = 1",
                Graphs.fan() + "analyse() = 11; pathsFrom(11) = 1; pathsFrom(10) = 1; "
                + "pathsFrom(0) = 11",
                LOOP + "pathsFrom(3) = 1; pathsFrom(2) = 1; pathsFrom(1) = 2; pathsFrom(0) = 4");
        Sentences.play(0, "The number of a path is the sum of the values of its links",
                SELF + "value(1, false) = 2; value(1, true) = 1; pathEdge(3, false) = 1; "
                + "pathEdge(3, true) = 1; text(b); findPath() = 3",
                LOOP + "value(2, false) = 2; value(3, true) = 1; text(bd); findPath() = 3");
        Sentences.play(0, "So the paths are numbered from 0 without gaps",
                SELF + "pathLength(-1)" + IOOBE + "pathLength(0) = 3; pathLength(1) = 2; "
                + "pathLength(2) = 2; pathLength(3) = 1; pathLength(4)" + IOOBE,
                Graphs.PATHS_201 + "pathLength(0) = 8; pathLength(201)" + IOOBE
                + "pathLength(-1)" + IOOBE);
        Sentences.play(0, "The nodes of a path are the nodes that are visited",
                SELF + "pathNode(0, 0) = 0; pathNode(0, 1) = 1; pathNode(0, 2) = 2; "
                + "pathNode(0, 3)" + IOOBE + "pathNode(1, 0) = 0; pathNode(1, 1) = 1; "
                + "pathNode(1, 2)" + IOOBE + "pathNode(2, 0) = 1; pathNode(2, 1) = 2; "
                + "pathNode(2, 2)" + IOOBE + "pathNode(3, 0) = 1; pathNode(3, 1)" + IOOBE);
    }

    private static void tree() {
        Sentences.play(0, "A spanning tree of the nodes is built",
                Graphs.ONE_EDGE + "analyse() = 1; chords(false) = 1",
                Graphs.CHAIN + "analyse() = 1; chords(false) = 1",
                Graphs.fan() + "analyse() = 11; chords(false) = 11",
                Graphs.dense(24) + "analyse() = 238; chords(false) = 30; chords(true) = 30");
        Sentences.play(0, "First it consists of a connection of the exit with the entry",
                Graphs.ONE_EDGE + "setWeight(0, 99) = 1; analyse() = 1; chords(false) = 1; "
                + "chords(true) = 99",
                "text(c:ac,ab,bc); load() = 3; setWeight(0, 99) = 1; analyse() = 2; "
                + "chords(false) = 2; chords(true) = 100; increment(0, true) = 0; "
                + "increment(1, true) = 0; increment(2, true) = 1");
    }

    private static void treeOrder() {
        String first = "increment(0, true) = 0; increment(1, true) = 0; increment(2, true) = 0; "
                + "increment(3, true) = 1";
        String last = "increment(0, true) = 0; increment(1, true) = 1; increment(2, true) = 0; "
                + "increment(3, true) = 0";
        Sentences.play(0, "Then all links are considered, ordered by weight",
                DIAMOND + "analyse() = 2; chords(true) = 2; " + first,
                DIAMOND + "setWeight(3, 2) = 1; analyse() = 2; chords(true) = 2; " + last,
                DIAMOND + "setWeight(3, 0) = 1; analyse() = 2; chords(true) = 1; " + first,
                DIAMOND + weigh(0, 0, 0, 0) + "analyse() = 2; chords(true) = 0; " + first,
                DIAMOND + weigh(0, 0, 0, 1) + "analyse() = 2; chords(true) = 0; " + last,
                DIAMOND + weigh(99, 99, 99, 99) + "analyse() = 2; chords(true) = 198; " + first,
                DIAMOND + weigh(98, 98, 98, 99) + "analyse() = 2; chords(true) = 196; " + last,
                DIAMOND + weigh(9, 9, 9, 10) + "analyse() = 2; chords(true) = 18; " + last);
        // The order among links of one weight: forward edges, end links, start links.
        Sentences.play(0, "Then all links are considered, ordered by weight",
                Graphs.SELF + "analyse() = 4; increment(0, true) = 0; increment(2, true) = 0; "
                + "increment(1, true) = 1; increment(1, false) = 2",
                "text(c:bb,ab,bc); load() = 3; analyse() = 4; increment(1, true) = 0; "
                + "increment(2, true) = 0; increment(0, true) = 1; increment(0, false) = 2",
                Graphs.SELF + "setWeight(1, 2) = 1; analyse() = 4; increment(1, true) = 0; "
                + "increment(1, false) = 3; increment(0, true) = 1; increment(2, true) = -1",
                "text(d:ab,bc,cb,bb,bd); load() = 5; setWeight(2, 9) = 1; setWeight(3, 9) = 1; "
                + "analyse() = 9; chords(false) = 5; increment(2, true) = 0; "
                + "increment(3, true) = 0; increment(2, false) = 5; increment(3, false) = 8; "
                + "increment(0, true) = 2; increment(1, true) = -2; increment(4, true) = -1");
    }

    private static String weigh(int... weights) {
        StringBuilder calls = new StringBuilder();
        for (int edge = 0; edge < weights.length; edge++) {
            calls.append("setWeight(" + edge + ", " + weights[edge] + ") = 1; ");
        }
        return calls.toString();
    }

    private static void increments() {
        Sentences.play(0, "Each node gets a potential",
                HEAVY_LOOP + "increment(2, true) = 0; increment(2, false) = 0; "
                + "increment(0, true) = -2; increment(1, true) = 2; increment(3, true) = 3",
                // The tree grows in pieces: bd, then cd, and at last ab, which joins them to a.
                "text(e:ab,ac,be,bd,cd,de); load() = 6; setWeight(3, 9) = 1; setWeight(4, 8) = 1; "
                + "analyse() = 3; increment(0, true) = 0; increment(1, true) = 1; "
                + "increment(2, true) = 0; increment(3, true) = 0; increment(4, true) = 0; "
                + "increment(5, true) = 1; chords(false) = 3; chords(true) = 3");
        Sentences.play(0, "The increment of a link from x to y",
                HEAVY_LOOP + "value(0, true) = 0; increment(0, true) = -2; value(1, true) = 0; "
                + "increment(1, true) = 2; value(3, true) = 1; increment(3, true) = 3");
        Sentences.play(0, "So links of the tree have the increment 0",
                LOOP + "increment(0, true) = 0; increment(1, true) = 0; chords(false) = 3; "
                + "chords(true) = 3",
                HEAVY_LOOP + "increment(2, true) = 0; increment(2, false) = 0; chords(false) = 3; "
                + "chords(true) = 3");
        Sentences.play(0, "The increments of the links of a path sum to the number of the path",
                HEAVY_LOOP + "start() = done; step(0) = 1; step(1) = 3; register() = 1; "
                + "start() = done; step(0) = 1; step(0) = 2; step(0) = 1; count(0) = 1; "
                + "step(0) = 2; step(0) = 1; count(2) = 1; step(1) = 3; register() = 3; "
                + "count(1) = 1; count(3) = 1");
    }

    private static void analyse() {
        Sentences.play(10, "Analyses the graph",
                Graphs.SELF + "pathsFrom(0)" + ISE + "analyse() = 4; pathsFrom(0) = 4");
        Sentences.play(10, "An earlier analysis, the walk and all counts are discarded",
                LOOP + "start() = done; step(0) = 1; step(0) = 2; step(0) = 1; register() = 2; "
                + "count(0) = 1; analyse() = 4; current() = -1; register() = 0; hottest() = -1; "
                + "count(0) = 0; share(0) = 0.0; edgeFrequency(0) = 0; step(0)" + ISE
                + "start() = done; step(0) = 1; step(1) = 3; share(1) = 1.0");
        Sentences.play(10, "Returns the number of paths from the entry; 0 if the graph cannot",
                "analyse() = 0; pathsFrom(0)" + ISE + "chords(false)" + ISE,
                Graphs.UNFIT + "analyse() = 0; pathsFrom(0)" + ISE + "findPath()" + ISE + "start()"
                + ISE + "hottest() = -1",
                Graphs.ONE_EDGE + "analyse() = 1; pathsFrom(0) = 1", Graphs.PATHS_199,
                Graphs.PATHS_200, Graphs.PATHS_201 + "pathsFrom(0) = 201",
                Graphs.manyPaths() + "pathsFrom(0) = 1335; pathsFrom(11) = 1");
    }

    private static void pathsFrom() {
        Sentences.play(11, "Returns the number of paths from a node, by the analysis",
                LOOP + "pathsFrom(0) = 4; pathsFrom(1) = 2; pathsFrom(2) = 1; pathsFrom(3) = 1");
        Sentences.play(11, "Returns the number of paths.",
                Graphs.dense(24) + "analyse() = 238; pathsFrom(0) = 238; pathsFrom(4) = 4; "
                + "pathsFrom(5) = 1");
        Sentences.needsAnalysis(11, "pathsFrom(0)", "4");
        Sentences.play(11, "Throws `IndexOutOfBoundsException` if the node does not exist",
                Graphs.ONE_EDGE + "analyse() = 1; pathsFrom(-1)" + IOOBE + "pathsFrom(0) = 1; "
                + "pathsFrom(1) = 1; pathsFrom(2)" + IOOBE,
                Graphs.CHAIN + "analyse() = 1; pathsFrom(-1)" + IOOBE + "pathsFrom(0) = 1; "
                + "pathsFrom(11) = 1; pathsFrom(12)" + IOOBE + "pathsFrom(13)" + IOOBE,
                Graphs.CHAIN + "analyse() = 1; " + SELF + "pathsFrom(2) = 1; pathsFrom(3)" + IOOBE,
                SELF + "pathsFrom(-2147483648)" + IOOBE + "pathsFrom(2147483647)" + IOOBE);
    }

    /** The edges that exist and those that do not, for a method of edges. */
    private static void edgesOf(int promise, String name, String rest, String... answers) {
        Sentences.play(promise, "Throws `IndexOutOfBoundsException` if the edge does not exist",
                Graphs.ONE_EDGE + "analyse() = 1; " + name + "(-1" + rest + IOOBE + name + "(0"
                + rest + " = " + answers[0] + "; " + name + "(1" + rest + IOOBE,
                SELF + name + "(2" + rest + " = " + answers[1] + "; " + name + "(3" + rest + IOOBE,
                Graphs.dense(24) + "analyse() = 238; " + name + "(-1" + rest + IOOBE + name + "(23"
                + rest + " = " + answers[2] + "; " + name + "(24" + rest + IOOBE + name + "(25"
                + rest + IOOBE,
                SELF + name + "(-2147483648" + rest + IOOBE + name + "(2147483647" + rest + IOOBE);
    }

    private static void isBack() {
        Sentences.play(12, "Tells whether an edge is a back edge",
                LOOP + "isBack(0) = false; isBack(1) = false; isBack(2) = true; isBack(3) = false");
        Sentences.play(12, "Returns true for a back edge, false for a forward edge",
                "text(c:bb,ab,bc); load() = 3; analyse() = 4; isBack(0) = true; isBack(1) = false; "
                + "text(c:ab,bc,bb); load() = 3; analyse() = 4; isBack(0) = false; "
                + "isBack(2) = true",
                Graphs.fullFan() + "analyse() = 20; isBack(20) = false; isBack(21) = true; "
                + "isBack(23) = true");
        Sentences.needsAnalysis(12, "isBack(1)", "true");
        edgesOf(12, "isBack", ")", "false", "false", "true");
    }

    private static void value() {
        Sentences.play(13, "Returns the value of a link",
                LOOP + "value(0, true) = 0; value(1, true) = 0; value(3, true) = 1; "
                + "value(2, true) = 0; value(2, false) = 2");
        Sentences.play(13, "Returns the value of the forward edge, or of the link of the back edge",
                SELF + "value(0, false) = 0; value(0, true) = 0; value(2, false) = 0; "
                + "value(2, true) = 0; value(1, false) = 2; value(1, true) = 1",
                Graphs.fan() + "analyse() = 11; value(10, false) = 10; value(10, true) = 10");
        Sentences.needsAnalysis(13, "value(1, true)", "1");
        Sentences.needsAnalysis(13, "value(1, false)", "2");
        edgesOf(13, "value", ", true)", "0", "0", "3");
        edgesOf(13, "value", ", false)", "0", "0", "234");
    }

    private static void increment() {
        Sentences.play(14, "Returns the increment of a link",
                LOOP + "increment(0, true) = 0; increment(1, true) = 0; increment(3, true) = 1; "
                + "increment(2, true) = 0; increment(2, false) = 2");
        Sentences.play(14, "Returns the increment, which may be negative",
                HEAVY_LOOP + "increment(0, true) = -2; increment(0, false) = -2; "
                + "increment(1, true) = 2; increment(1, false) = 2; increment(2, true) = 0; "
                + "increment(2, false) = 0",
                Graphs.SELF + "setWeight(1, 9) = 1; analyse() = 4; increment(2, true) = -1; "
                + "increment(2, false) = -1; increment(1, true) = 0; increment(1, false) = 3");
        Sentences.needsAnalysis(14, "increment(1, true)", "1");
        Sentences.needsAnalysis(14, "increment(1, false)", "2");
        // In the dense graph node 4 has the potential 52, the value of the edge from 0 to it.
        edgesOf(14, "increment", ", true)", "0", "0", "55");
        edgesOf(14, "increment", ", false)", "0", "0", "182");
    }

    private static void chords() {
        Sentences.play(15, "Returns the number of chords, or the sum of their weights",
                Graphs.LOOP + weigh(10, 20, 30, 40) + "analyse() = 4; chords(false) = 3; "
                + "chords(true) = 60");
        Sentences.play(15, "Returns the number or the sum",
                Graphs.ONE_EDGE + "setWeight(0, 0) = 1; analyse() = 1; chords(false) = 1; "
                + "chords(true) = 0; setWeight(0, 99) = 0; analyse() = 1; chords(false) = 1; "
                + "chords(true) = 99",
                LOOP + "analyse() = 4; chords(false) = 3; chords(true) = 3",
                Graphs.fullFan() + "analyse() = 20; chords(false) = 17; chords(true) = 17; "
                + SELF + "chords(false) = 3; chords(true) = 3");
        Sentences.needsAnalysis(15, "chords(false)", "3");
        Sentences.needsAnalysis(15, "chords(true)", "3");
    }
}
