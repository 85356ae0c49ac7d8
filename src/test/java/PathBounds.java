/** The bounds of the promises 16 to 19. */
final class PathBounds {
    private static final String IOOBE = Graphs.IOOBE;
    private static final String ONE = Graphs.ONE_EDGE + "analyse() = 1; ";
    private static final String LOOP = Graphs.LOOP + "analyse() = 4; ";
    private static final String SELF = Graphs.SELF + "analyse() = 4; ";
    private static final String CHAIN = Graphs.CHAIN + "analyse() = 1; ";
    private static final String DENSE = Graphs.dense(24) + "analyse() = 238; ";

    private PathBounds() { }

    static void play() {
        pathLength();
        pathNode();
        pathEdge();
        findPath();
        findPathInLongTexts();
    }

    /** The paths that exist and those that do not; the last answers are for path 0. */
    private static void pathsOf(int promise, String sentence, String name, String rest,
            String one, String self, String dense) {
        Sentences.play(promise, sentence,
                ONE + name + "(-1" + rest + IOOBE + name + "(0" + rest + " = " + one + "; " + name
                + "(1" + rest + IOOBE,
                SELF + name + "(-1" + rest + IOOBE + name + "(3" + rest + " = " + self + "; " + name
                + "(4" + rest + IOOBE,
                Graphs.PATHS_200 + name + "(-1" + rest + IOOBE + name + "(200" + rest + IOOBE,
                Graphs.PATHS_201 + name + "(-1" + rest + IOOBE + name + "(201" + rest + IOOBE,
                DENSE + name + "(237" + rest + " = " + dense + "; " + name + "(238" + rest + IOOBE
                + name + "(239" + rest + IOOBE,
                DENSE + SELF + name + "(3" + rest + " = " + self + "; " + name + "(4" + rest
                + IOOBE,
                SELF + name + "(-2147483648" + rest + IOOBE + name + "(2147483647" + rest + IOOBE);
    }

    private static void pathLength() {
        Sentences.play(16, "Returns the number of nodes of a path",
                SELF + "pathLength(0) = 3; pathLength(1) = 2; pathLength(2) = 2; "
                + "pathLength(3) = 1");
        Sentences.play(16, "Returns the number of nodes.",
                CHAIN + "pathLength(0) = 12", ONE + "pathLength(0) = 2",
                Graphs.PATHS_200 + "pathLength(199) = 1",
                Graphs.manyPaths() + "pathLength(1334) = 7; pathLength(1335)" + IOOBE);
        Sentences.needsAnalysis(16, "pathLength(0)", "3");
        pathsOf(16, "Throws `IndexOutOfBoundsException` if the path does not exist", "pathLength",
                ")", "2", "1", "1");
    }

    private static void pathNode() {
        Sentences.play(17, "Returns a node of a path",
                LOOP + "pathNode(0, 0) = 0; pathNode(0, 1) = 1; pathNode(0, 2) = 2; "
                + "pathNode(1, 2) = 3; pathNode(2, 0) = 1; pathNode(2, 1) = 2");
        Sentences.play(17, "Returns the node",
                CHAIN + "pathNode(0, 0) = 0; pathNode(0, 1) = 1; pathNode(0, 10) = 10; "
                + "pathNode(0, 11) = 11",
                SELF + "pathNode(3, 0) = 1");
        Sentences.needsAnalysis(17, "pathNode(3, 0)", "1");
        String sentence = "Throws `IndexOutOfBoundsException` if the path does not exist, or has";
        pathsOf(17, sentence, "pathNode", ", 0)", "0", "1", "4");
        Sentences.play(17, sentence,
                ONE + "pathNode(0, -1)" + IOOBE + "pathNode(0, 0) = 0; pathNode(0, 1) = 1; "
                + "pathNode(0, 2)" + IOOBE + "pathNode(0, 3)" + IOOBE,
                SELF + "pathNode(3, -1)" + IOOBE + "pathNode(3, 0) = 1; pathNode(3, 1)" + IOOBE
                + "pathNode(3, 2)" + IOOBE + "pathNode(0, 2) = 2; pathNode(0, 3)" + IOOBE
                + "pathNode(1, 1) = 1; pathNode(1, 2)" + IOOBE + "pathNode(2, 1) = 2; "
                + "pathNode(2, 2)" + IOOBE,
                CHAIN + "pathNode(0, -1)" + IOOBE + "pathNode(0, 11) = 11; pathNode(0, 12)" + IOOBE
                + "pathNode(0, 13)" + IOOBE,
                SELF + "pathNode(0, -2147483648)" + IOOBE + "pathNode(0, 2147483647)" + IOOBE,
                SELF + "pathNode(4, -1)" + IOOBE + "pathNode(-1, 3)" + IOOBE);
    }

    private static void pathEdge() {
        Sentences.play(18, "Returns the back edge whose start link is the first link of a path",
                LOOP + "pathEdge(0, true) = 2; pathEdge(2, false) = 2; pathEdge(2, true) = 2; "
                + "pathEdge(3, false) = 2",
                "text(d:ab,bc,cb,cc,bd); load() = 5; analyse() = 8; pathEdge(4, false) = 2; "
                + "pathEdge(4, true) = 3; pathEdge(6, false) = 3; pathEdge(6, true) = 2");
        Sentences.play(18, "Returns the edge; NONE if the path does not begin with a start link",
                LOOP + "pathEdge(0, false) = -1; pathEdge(1, false) = -1; pathEdge(1, true) = -1; "
                + "pathEdge(3, true) = -1",
                ONE + "pathEdge(0, true) = -1; pathEdge(0, false) = -1",
                // Edge 0 is the back edge: its number is not mistaken for NONE.
                "text(c:bb,ab,bc); load() = 3; analyse() = 4; pathEdge(3, false) = 0; "
                + "pathEdge(3, true) = 0; pathEdge(1, true) = 0; pathEdge(1, false) = -1; "
                + "pathEdge(2, false) = 0; pathEdge(2, true) = -1",
                DENSE + "pathEdge(237, false) = 23; pathEdge(237, true) = 23; "
                + "pathEdge(236, true) = 22; pathEdge(236, false) = 23; pathEdge(0, false) = -1");
        Sentences.needsAnalysis(18, "pathEdge(3, true)", "1");
        Sentences.needsAnalysis(18, "pathEdge(2, true)", "-1");
        String sentence = "Throws `IndexOutOfBoundsException` if the path does not exist";
        pathsOf(18, sentence, "pathEdge", ", true)", "-1", "1", "23");
        pathsOf(18, sentence, "pathEdge", ", false)", "-1", "1", "23");
    }

    private static void findPath() {
        Sentences.play(19, "Finds the first path whose nodes are those in the buffer",
                LOOP + "text(abc); findPath() = 0", LOOP + "text(abd); findPath() = 1",
                LOOP + "text(bc); findPath() = 2", LOOP + "text(bd); findPath() = 3",
                LOOP + "text(a,b,c); findPath() = -1", LOOP + "text(a b d); findPath() = -1",
                LOOP + "text(abd ); findPath() = -1", LOOP + "text( abd); findPath() = -1",
                ONE + "text(ab); findPath() = 0", SELF + "text(b); findPath() = 3");
        Sentences.play(19, "The buffer is kept",
                LOOP + "text(abc); findPath() = 0; findPath() = 0; clearInput() = 3",
                LOOP + "text(b:ab); findPath() = -1; load() = 1",
                ONE + Graphs.fill('a', 0, 60) + "findPath() = -1; clearInput() = 60");
        // The path abc ends with cb or with cc, and bcd begins with the target of cb or of bb.
        Sentences.play(19, "Returns the lowest number of such a path; NONE if there is none",
                LOOP + "findPath() = -1", ONE + "findPath() = -1", CHAIN + "findPath() = -1",
                "text(d:ab,bc,cb,cc,bd); load() = 5; analyse() = 8; text(abc); findPath() = 0",
                "text(d:ab,bc,cb,bb,cd); load() = 5; analyse() = 9; text(bcd); findPath() = 3",
                "text(d:ab,bc,cb,bb,cd); load() = 5; analyse() = 9; text(b); findPath() = 5",
                // Bounds of a path's nodes: none, too few and too many.
                SELF + "append(97) = 1; findPath() = -1; append(98) = 2; findPath() = 1; "
                + "append(99) = 3; findPath() = 0; append(99) = 4; findPath() = -1",
                SELF + "append(98) = 1; findPath() = 3; append(98) = 2; findPath() = -1; "
                + "append(99) = 3; findPath() = -1");
        Sentences.needsAnalysis(19, "findPath()", "-1");
    }

    private static void findPathInLongTexts() {
        String sentence = "Returns the lowest number of such a path";
        // 12 nodes are the most; a character before, behind or amidst them makes it no path.
        Sentences.play(19, sentence, CHAIN + "text(abcdefghijkl); findPath() = 0; append(108) = 13;"
                + " findPath() = -1", CHAIN + "text(abcdefghijk); findPath() = -1",
                CHAIN + "text(bcdefghijkl); findPath() = -1",
                CHAIN + "text(abcdefghijkm); findPath() = -1",
                CHAIN + "text(`bcdefghijkl); findPath() = -1",
                CHAIN + "text(ABCDEFGHIJKL); findPath() = -1",
                CHAIN + "text(abcdef~hijkl); findPath() = -1",
                ONE + "text(ac); findPath() = -1", ONE + "text(`b); findPath() = -1",
                ONE + "text(cb); findPath() = -1", ONE + "text(aa); findPath() = -1",
                ONE + "text(ba); findPath() = -1", ONE + "text(a); findPath() = -1",
                ONE + "text(b); findPath() = -1",
                SELF + Graphs.fill('b', 0, 60) + "findPath() = -1",
                Graphs.PATHS_201 + "text(abcdefgh); findPath() = 0",
                // The last path of the dense graph visits node e alone.
                DENSE + "text(e); findPath() = 234; pathLength(234) = 1; pathEdge(234, true) = 20");
    }
}
