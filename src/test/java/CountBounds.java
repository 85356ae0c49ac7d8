import java.math.BigInteger;

/** The bounds of the promises 24 to 28. */
final class CountBounds {
    private static final String ISE = Graphs.ISE;
    private static final String IOOBE = Graphs.IOOBE;
    private static final String ONE = Graphs.ONE_EDGE + "analyse() = 1; ";
    private static final String LOOP = Graphs.LOOP + "analyse() = 4; ";
    private static final String SELF = Graphs.SELF + "analyse() = 4; ";
    // Counts: path 0 (abc) 1, path 1 (abd) 1, path 2 (bc) 2, path 3 (bd) 1.
    private static final String WALKED = LOOP + "start() = done; step(0) = 1; step(1) = 3; "
            + "start() = done; step(0) = 1; step(0) = 2; step(0) = 1; step(0) = 2; step(0) = 1; "
            + "step(0) = 2; step(0) = 1; step(1) = 3; ";
    // Path 199 of 200 visits d alone: from the start link of ed to the end link of dc.
    private static final String LAST_OF_200 = Graphs.PATHS_200 + "start() = done; step(0) = 1; "
            + "step(0) = 2; step(0) = 3; step(0) = 4; step(2) = 3; step(2) = 2; ";

    private CountBounds() { }

    static void play() {
        count();
        manyCalls();
        share();
        hottest();
        edgeFrequency();
        digestOfGraphs();
        digestOfAnalyses();
    }

    private static void count() {
        Sentences.play(24, "Returns how often a path has been counted since the analysis",
                WALKED + "count(0) = 1; count(1) = 1; count(2) = 2; count(3) = 1; analyse() = 4; "
                + "count(0) = 0; count(2) = 0; start() = done; step(0) = 1; step(1) = 3; "
                + "count(1) = 1",
                LOOP + "start() = done; step(0) = 1; step(0) = 2; count(0) = 0; step(0) = 1; "
                + "count(0) = 1");
        Sentences.play(24, "Returns the count",
                ONE + "count(0) = 0; start() = done; count(0) = 0; step(0) = 1; count(0) = 1; "
                + "start() = done; count(0) = 1; step(0) = 1; count(0) = 2",
                LAST_OF_200 + "count(199) = 1; count(198) = 0");
        Sentences.needsCounts(24, "count(0)", "0");
        pathsOf(24, "count", "0", "1");
    }

    private static void pathsOf(int promise, String name, String nothing, String counted) {
        Sentences.play(promise, "Throws `IndexOutOfBoundsException` if the path does not exist",
                ONE + name + "(-1)" + IOOBE + name + "(0) = " + nothing + "; " + name + "(1)"
                + IOOBE,
                SELF + name + "(-1)" + IOOBE + name + "(3) = " + nothing + "; " + name + "(4)"
                + IOOBE,
                Graphs.PATHS_199 + name + "(198) = " + nothing + "; " + name + "(199)" + IOOBE
                + name + "(200)" + IOOBE,
                Graphs.PATHS_200 + name + "(-1)" + IOOBE + name + "(199) = " + nothing + "; " + name
                + "(200)" + IOOBE + name + "(201)" + IOOBE,
                ONE + "start() = done; step(0) = 1; " + name + "(0) = " + counted + "; " + name
                + "(1)" + IOOBE + name + "(-1)" + IOOBE,
                SELF + name + "(-2147483648)" + IOOBE + name + "(2147483647)" + IOOBE);
    }

    // An object is used for at most 512 calls: no count can be greater than this.
    private static void manyCalls() {
        Script script = new Script("24: a long walk").write("c:ab,bb,bc");
        script.then("load() = 3; analyse() = 4; start() = done; step(0) = 1");
        for (int round = 0; round < 400; round++) {
            script.ask("step(0)");
        }
        script.then("count(1) = 1; count(3) = 399; hottest() = 3; share(3) = 0.9975; "
                + "edgeFrequency(1) = 400; step(1) = 2; count(2) = 1; edgeFrequency(2) = 1");
    }

    private static void share() {
        Sentences.play(25, "Returns the share of a path",
                WALKED + "share(0) = 0.2; share(1) = 0.2; share(2) = 0.4; share(3) = 0.2",
                LAST_OF_200 + "share(199) = 0.5; share(198) = 0.0");
        Sentences.play(25, "Returns its count divided by the sum of all counts, as a double; 0.0",
                LOOP + "share(0) = 0.0; start() = done; share(0) = 0.0; step(0) = 1; "
                + "share(0) = 0.0; share(1) = 0.0; step(1) = 3; share(0) = 0.0; share(1) = 1.0",
                LOOP + "start() = done; step(0) = 1; step(0) = 2; step(0) = 1; step(0) = 2; "
                + "step(0) = 1; step(0) = 2; step(0) = 1; share(0) = 0.3333333333333333; "
                + "share(2) = 0.6666666666666666; share(1) = 0.0; share(3) = 0.0",
                WALKED + "analyse() = 4; share(2) = 0.0; start() = done; step(0) = 1; "
                + "step(1) = 3; share(1) = 1.0");
        Sentences.needsCounts(25, "share(0)", "0.0");
        pathsOf(25, "share", "0.0", "1.0");
    }

    private static void hottest() {
        Sentences.play(26, "Finds the path with the greatest count",
                WALKED + "hottest() = 2",
                ONE + "start() = done; step(0) = 1; hottest() = 0; start() = done; hottest() = 0",
                LAST_OF_200 + "step(0) = 3; step(0) = 4; step(2) = 3; step(2) = 2; "
                + "count(199) = 2; hottest() = 199");
        Sentences.play(26, "Returns the number of the path, the lowest one of several; NONE if",
                "hottest() = -1", Graphs.UNFIT + "analyse() = 0; hottest() = -1",
                LOOP + "hottest() = -1; start() = done; step(0) = 1; hottest() = -1; "
                + "step(1) = 3; hottest() = 1",
                Graphs.PATHS_200 + "hottest() = -1", Graphs.PATHS_201 + "hottest() = -1",
                // Counts of 3 and 0, then a second path with as many.
                LOOP + "start() = done; step(0) = 1; step(0) = 2; step(0) = 1; hottest() = 0; "
                + "step(1) = 3; count(0) = 1; count(3) = 1; hottest() = 0",
                LOOP + "start() = done; step(0) = 1; step(1) = 3; hottest() = 1; start() = done; "
                + "step(0) = 1; step(0) = 2; step(0) = 1; hottest() = 0; start() = done; "
                + "step(0) = 1; step(1) = 3; hottest() = 1",
                WALKED + "analyse() = 4; hottest() = -1",
                WALKED + "setWeight(0, 1) = 1; hottest() = -1",
                WALKED + "addEdge(0, 2) = 4; hottest() = -1",
                WALKED + "setNodes(4) = done; hottest() = -1",
                WALKED + Graphs.LOOP + "hottest() = -1");
    }

    private static void edgeFrequency() {
        Sentences.play(27, "Computes how often an edge occurs in the counted paths",
                WALKED + "edgeFrequency(0) = 2; edgeFrequency(1) = 3; edgeFrequency(2) = 3; "
                + "edgeFrequency(3) = 2",
                SELF + "start() = done; step(0) = 1; step(0) = 1; edgeFrequency(0) = 1; "
                + "edgeFrequency(1) = 1; edgeFrequency(2) = 0; step(1) = 2; edgeFrequency(0) = 1; "
                + "edgeFrequency(1) = 1; edgeFrequency(2) = 1");
        Sentences.play(27, "Returns the sum of the counts of all paths that contain the forward",
                LOOP + "edgeFrequency(0) = 0; edgeFrequency(2) = 0; start() = done; step(0) = 1; "
                + "edgeFrequency(0) = 0; step(1) = 3; edgeFrequency(0) = 1; edgeFrequency(1) = 0; "
                + "edgeFrequency(2) = 0; edgeFrequency(3) = 1",
                LAST_OF_200 + "edgeFrequency(13) = 1; edgeFrequency(16) = 1; edgeFrequency(0) = 1; "
                + "edgeFrequency(4) = 0",
                WALKED + "analyse() = 4; edgeFrequency(1) = 0");
        Sentences.needsCounts(27, "edgeFrequency(0)", "0");
        Sentences.play(27, "Throws `IndexOutOfBoundsException` if the edge does not exist",
                ONE + "edgeFrequency(-1)" + IOOBE + "edgeFrequency(0) = 0; edgeFrequency(1)"
                + IOOBE,
                Graphs.PATHS_200 + "edgeFrequency(16) = 0; edgeFrequency(17)" + IOOBE,
                Graphs.fullFan() + "analyse() = 20; start() = done; step(2) = 3; step(1) = 3; "
                + "edgeFrequency(-1)" + IOOBE + "edgeFrequency(23) = 1; edgeFrequency(24)" + IOOBE
                + "edgeFrequency(25)" + IOOBE,
                SELF + "edgeFrequency(-2147483648)" + IOOBE + "edgeFrequency(2147483647)" + IOOBE);
    }

    /** The hash in numbers without bounds, cut to 64 bits at the end alone. */
    private static long hash(int... values) {
        BigInteger hash = BigInteger.valueOf(1831);
        for (int x : values) {
            hash = hash.multiply(BigInteger.valueOf(31)).add(BigInteger.valueOf(x));
        }
        return hash.longValue();
    }

    private static void digest(String sentence, String calls, int... values) {
        Sentences.play(28, sentence, calls + "digest() = " + hash(values));
    }

    private static void digestOfGraphs() {
        digest("Computes a hash of the whole state", "", 2, 0, 0, -1, 0, -1, 0);
        digest("Returns the hash", "digest() = " + hash(2, 0, 0, -1, 0, -1, 0) + "; append(32) = 1;"
                + " clearInput() = 1; ", 2, 0, 0, -1, 0, -1, 0);
        digest("The values are, in this order: the number of nodes; the number of edges",
                "setNodes(12) = done; addEdge(0, 11) = 0; addEdge(10, 1) = 1; "
                + "setWeight(0, 0) = 1; setWeight(1, 99) = 1; ",
                12, 2, 0, 11, 0, 10, 1, 99, 0, -1, 0, -1, 0);
        digest("Then current, register, hottest, the length of the input buffer",
                ONE + "start() = done; text( ~); ",
                2, 1, 0, 1, 1, 1, 1, 1, 0, 0, 0, 0, 0, 1, 1, 0, 0, 0, -1, 2, 32, 126);
        // 60 characters carry the hash round many times.
        int[] values = new int[67];
        System.arraycopy(new int[] {2, 0, 0, -1, 0, -1, 60}, 0, values, 0, 7);
        for (int at = 0; at < 60; at++) {
            values[7 + at] = '~';
        }
        digest("The hash starts as 1831; each value x replaces the hash",
                Graphs.fill('~', 0, 60), values);
    }

    private static void digestOfAnalyses() {
        String sentence = "If there is an analysis: for each node pathsFrom";
        digest(sentence, Graphs.ONE_EDGE, 2, 1, 0, 1, 1, 0, -1, 0, -1, 0);
        digest(sentence, ONE, 2, 1, 0, 1, 1, 1, 1, 1, 0, 0, 0, 0, 0, 1, 1, 0, -1, 0, -1, 0);
        // A register of -2, and negative increments.
        digest(sentence, Graphs.LOOP + "setWeight(2, 99) = 1; analyse() = 4; start() = done; "
                + "step(0) = 1; ",
                4, 4, 0, 1, 1, 1, 2, 1, 2, 1, 99, 1, 3, 1, 1,
                4, 2, 1, 1,
                0, 0, -2, 0, -2,
                0, 0, 2, 0, 2,
                1, 2, 0, 0, 0,
                0, 1, 3, 1, 3,
                3, 3,
                0, 0, 0, 0,
                1, -2, -1, 0);
        counted(Graphs.PATHS_199);
        counted(LAST_OF_200);
        counted(Graphs.PATHS_201);
        counted(Graphs.manyPaths());
    }

    /** With at most 200 paths the counts are in the digest; Reference says what is due. */
    private static void counted(String calls) {
        Script reference = new Script("28: reference", new Reference()).then(calls);
        Sentences.play(28, "If there is an analysis: for each node pathsFrom",
                calls + "digest() = " + reference.ask("digest()"));
    }
}
