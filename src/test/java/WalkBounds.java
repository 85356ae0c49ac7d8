/** The bounds of the paragraph "Walks" and of the promises 20 to 23. */
final class WalkBounds {
    private static final String ISE = Graphs.ISE;
    private static final String IOOBE = Graphs.IOOBE;
    private static final String ONE = Graphs.ONE_EDGE + "analyse() = 1; start() = done; ";
    private static final String LOOP = Graphs.LOOP + "analyse() = 4; start() = done; ";
    private static final String SELF = Graphs.SELF + "analyse() = 4; start() = done; ";
    // Increments: ab -2, bc 2, bd 3, both links of cb 0.
    private static final String HEAVY_LOOP = Graphs.LOOP
            + "setWeight(2, 99) = 1; analyse() = 4; start() = done; ";

    private WalkBounds() { }

    static void play() {
        description();
        start();
        step();
        stepThrows();
        current();
        register();
    }

    private static void description() {
        Sentences.play(0, "A walk begins at the entry with the register 0",
                ONE + "current() = 0; register() = 0",
                HEAVY_LOOP + "step(0) = 1; register() = -2; start() = done; current() = 0; "
                + "register() = 0");
        Sentences.play(0, "When a forward edge is followed",
                HEAVY_LOOP + "step(0) = 1; register() = -2; hottest() = -1; step(0) = 2; "
                + "register() = 0; hottest() = -1",
                HEAVY_LOOP + "step(0) = 1; step(1) = 3; register() = 1; count(1) = 1; step(0)" + ISE
                + "count(1) = 1",
                ONE + "step(0) = 1; count(0) = 1; register() = 0; step(0)" + ISE);
        Sentences.play(0, "When a back edge is followed",
                SELF + "step(0) = 1; register() = 0; step(0) = 1; count(1) = 1; register() = 2; "
                + "step(0) = 1; count(3) = 1; register() = 2; step(1) = 2; count(2) = 1; "
                + "register() = 2; count(0) = 0",
                Graphs.SELF + "setWeight(1, 9) = 1; analyse() = 4; start() = done; step(0) = 1; "
                + "register() = 1; step(0) = 1; count(1) = 1; register() = 3");
        Sentences.play(0, "Walks are possible if the graph is analysed and has at most 200 paths",
                Graphs.ONE_EDGE + "start()" + ISE + "analyse() = 1; start() = done",
                Graphs.PATHS_199 + "start() = done; step(0) = 1",
                Graphs.PATHS_200 + "start() = done; step(0) = 1",
                Graphs.PATHS_201 + "start()" + ISE + "step(0)" + ISE + "current() = -1");
    }

    private static void start() {
        Sentences.play(20, "Begins a walk",
                Graphs.ONE_EDGE + "analyse() = 1; current() = -1; start() = done; current() = 0",
                ONE + "step(0) = 1; step(0)" + ISE + "start() = done; current() = 0; step(0) = 1; "
                + "count(0) = 2");
        Sentences.play(20, "A walk that is not over is given up; what it has counted stays",
                LOOP + "step(0) = 1; step(0) = 2; step(0) = 1; register() = 2; start() = done; "
                + "current() = 0; register() = 0; count(0) = 1; count(2) = 0; hottest() = 0; "
                + "share(0) = 1.0; edgeFrequency(2) = 1",
                LOOP + "step(0) = 1; start() = done; hottest() = -1; share(0) = 0.0; start() = "
                + "done; step(0) = 1; step(1) = 3; count(1) = 1; count(0) = 0");
        Sentences.needsCounts(20, "start()", "done");
    }

    private static void step() {
        Sentences.play(21, "Follows an edge of the current node of the walk",
                LOOP + "step(0) = 1; current() = 1; step(0) = 2; current() = 2; step(0) = 1; "
                + "current() = 1; step(1) = 3; current() = 3",
                // Edges are told in the order of their numbers, forward and back edges together.
                "text(d:bd,bb,cb,bc,ac,ab,cd); load() = 7; analyse() = 14; start() = done; "
                + "step(0) = 2; step(0) = 1; step(1) = 1; step(2) = 2; step(1) = 3");
        Sentences.play(21, "Returns the node to which it leads",
                ONE + "step(0) = 1", SELF + "step(0) = 1; step(0) = 1; step(1) = 2",
                Graphs.fan() + "analyse() = 11; start() = done; step(10) = 11",
                Graphs.fan() + "analyse() = 11; start() = done; step(9) = 10; step(0) = 11; "
                + "register() = 9; count(9) = 1");
    }

    private static void stepThrows() {
        Sentences.play(21, "Throws `IllegalStateException` if there is no walk, or it is over",
                "step(0)" + ISE, Graphs.UNFIT + "analyse() = 0; step(0)" + ISE,
                Graphs.ONE_EDGE + "analyse() = 1; step(0)" + ISE + "start() = done; step(0) = 1; "
                + "step(0)" + ISE + "current() = 1; register() = 0; count(0) = 1",
                LOOP + "step(0) = 1; analyse() = 4; step(0)" + ISE + "start() = done; step(0) = 1",
                LOOP + "step(0) = 1; setWeight(0, 1) = 1; step(0)" + ISE,
                LOOP + "step(0) = 1; addEdge(0, 3) = 4; step(0)" + ISE,
                LOOP + "step(0) = 1; setNodes(4) = done; step(0)" + ISE,
                LOOP + "step(0) = 1; " + Graphs.LOOP + "step(0)" + ISE,
                LOOP + "step(0) = 1; step(1) = 3; step(0)" + ISE + "step(0)" + ISE
                + "count(1) = 1; start() = done; step(0) = 1");
        Sentences.play(21, "Throws `IndexOutOfBoundsException` if the node has no such edge",
                ONE + "step(-1)" + IOOBE + "step(1)" + IOOBE + "current() = 0; step(0) = 1",
                LOOP + "step(0) = 1; step(-1)" + IOOBE + "step(2)" + IOOBE + "step(3)" + IOOBE
                + "current() = 1; step(0) = 2; step(1)" + IOOBE + "step(-1)" + IOOBE
                + "step(0) = 1; step(1) = 3",
                Graphs.fan() + "analyse() = 11; start() = done; step(11)" + IOOBE + "step(12)"
                + IOOBE + "step(-1)" + IOOBE + "current() = 0; step(10) = 11",
                Graphs.fullFan() + "analyse() = 20; start() = done; step(0) = 1; step(2)" + IOOBE
                + "step(1) = 1; step(0) = 11",
                ONE + "step(-2147483648)" + IOOBE + "step(2147483647)" + IOOBE + "step(24)"
                + IOOBE + "step(0) = 1");
    }

    private static void current() {
        Sentences.play(22, "Returns the current node of the walk",
                LOOP + "current() = 0; step(0) = 1; current() = 1; step(0) = 2; current() = 2; "
                + "step(0) = 1; current() = 1",
                SELF + "step(0) = 1; step(0) = 1; current() = 1; step(2)" + IOOBE
                + "current() = 1");
        Sentences.play(22, "Returns the node (the exit if the walk is over); NONE if there is no",
                "current() = -1", Graphs.LOOP + "current() = -1; analyse() = 4; current() = -1; "
                + "start() = done; current() = 0",
                ONE + "step(0) = 1; current() = 1; step(0)" + ISE + "current() = 1",
                Graphs.CHAIN + "analyse() = 1; start() = done; step(0) = 1; step(0) = 2; "
                + "step(0) = 3; step(0) = 4; step(0) = 5; step(0) = 6; step(0) = 7; step(0) = 8; "
                + "step(0) = 9; step(0) = 10; current() = 10; step(0) = 11; current() = 11",
                LOOP + "step(0) = 1; step(1) = 3; current() = 3; analyse() = 4; current() = -1",
                LOOP + "step(0) = 1; setWeight(0, 1) = 1; current() = -1");
    }

    private static void register() {
        Sentences.play(23, "Returns the register of the walk",
                HEAVY_LOOP + "register() = 0; step(0) = 1; register() = -2; step(0) = 2; "
                + "register() = 0; step(0) = 1; register() = 0; step(0) = 2; register() = 2; "
                + "step(1)" + IOOBE + "register() = 2");
        Sentences.play(23, "Returns the register (when the walk is over, the number of the path",
                "register() = 0", Graphs.LOOP + "analyse() = 4; register() = 0",
                LOOP + "register() = 0; step(0) = 1; step(1) = 3; register() = 1; step(0)" + ISE
                + "register() = 1; start() = done; register() = 0",
                LOOP + "step(0) = 1; step(0) = 2; step(0) = 1; step(1) = 3; register() = 3; "
                + "analyse() = 4; register() = 0",
                LOOP + "step(0) = 1; step(0) = 2; step(0) = 1; register() = 2; "
                + "setWeight(0, 1) = 1; register() = 0",
                ONE + "step(0) = 1; register() = 0");
    }
}
