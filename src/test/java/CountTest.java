/** Promises 24 to 27: count, share, hottest and edgeFrequency. */
public final class CountTest {
    private static final String LOOP = "text(d:ab,bc,cb,bd); load() = 4; analyse() = 4; ";
    // Counts: path 0 (abc) 1, path 1 (abd) 1, path 2 (bc) 2, path 3 (bd) 1.
    private static final String WALKED = LOOP + "start() = done; step(0) = 1; step(1) = 3; "
            + "start() = done; step(0) = 1; step(0) = 2; step(0) = 1; step(0) = 2; step(0) = 1; "
            + "step(0) = 2; step(0) = 1; step(1) = 3; ";

    private static void unanswered(String title, String before) {
        Script.play(title, before + "count(0) = throws IllegalStateException; "
                + "count(-1) = throws IllegalStateException; "
                + "count(201) = throws IllegalStateException; "
                + "share(0) = throws IllegalStateException; "
                + "share(-1) = throws IllegalStateException; "
                + "share(201) = throws IllegalStateException; "
                + "edgeFrequency(0) = throws IllegalStateException; "
                + "edgeFrequency(-1) = throws IllegalStateException; "
                + "edgeFrequency(24) = throws IllegalStateException; hottest() = -1");
    }

    private static void count() {
        Script.play("24: count", LOOP + "count(0) = 0; count(3) = 0; "
                + "count(4) = throws IndexOutOfBoundsException; "
                + "count(-1) = throws IndexOutOfBoundsException; "
                + "count(2147483647) = throws IndexOutOfBoundsException; "
                + "count(-2147483648) = throws IndexOutOfBoundsException");
        Script.play("24: count after walks", WALKED + "count(0) = 1; count(1) = 1; count(2) = 2; "
                + "count(3) = 1; analyse() = 4; count(2) = 0");
        Script.play("24: a path that is not over is not counted", LOOP + "start() = done; "
                + "step(0) = 1; step(0) = 2; count(0) = 0; count(1) = 0");
    }

    private static void share() {
        Script.play("25: share of nothing", LOOP + "share(0) = 0.0; share(3) = 0.0; "
                + "share(4) = throws IndexOutOfBoundsException; "
                + "share(-1) = throws IndexOutOfBoundsException");
        Script.play("25: share", WALKED + "share(0) = 0.2; share(1) = 0.2; share(2) = 0.4; "
                + "share(3) = 0.2; share(4) = throws IndexOutOfBoundsException; analyse() = 4; "
                + "share(2) = 0.0");
        Script.play("25: thirds", LOOP + "start() = done; step(0) = 1; step(0) = 2; step(0) = 1; "
                + "step(0) = 2; step(0) = 1; step(0) = 2; step(0) = 1; "
                + "share(0) = 0.3333333333333333; share(2) = 0.6666666666666666; share(1) = 0.0");
        Script.play("25: the whole", "addEdge(0, 1) = 0; analyse() = 1; start() = done; "
                + "step(0) = 1; share(0) = 1.0; start() = done; share(0) = 1.0; "
                + "share(1) = throws IndexOutOfBoundsException");
    }

    private static void hottest() {
        Script.play("26: nothing", "hottest() = -1; " + LOOP + "hottest() = -1; start() = done; "
                + "hottest() = -1; step(0) = 1; hottest() = -1");
        Script.play("26: the greatest", WALKED + "hottest() = 2; start() = done; step(0) = 1; "
                + "step(1) = 3; hottest() = 1; setWeight(0, 1) = 1; hottest() = -1");
        Script.play("26: the lowest of several", LOOP + "start() = done; step(0) = 1; step(0) = 2; "
                + "step(0) = 1; step(1) = 3; hottest() = 0; count(3) = 1");
    }

    private static void edgeFrequency() {
        Script.play("27: nothing", LOOP + "edgeFrequency(0) = 0; edgeFrequency(2) = 0; "
                + "edgeFrequency(4) = throws IndexOutOfBoundsException; "
                + "edgeFrequency(-1) = throws IndexOutOfBoundsException; "
                + "edgeFrequency(2147483647) = throws IndexOutOfBoundsException");
        Script.play("27: forward and back edges", WALKED + "edgeFrequency(0) = 2; "
                + "edgeFrequency(1) = 3; edgeFrequency(2) = 3; edgeFrequency(3) = 2; "
                + "edgeFrequency(4) = throws IndexOutOfBoundsException");
        // The start link of bb leads from a to b as the edge ab does, but is not the edge.
        Script.play("27: a start link is no edge", "text(c:ab,bb,bc); load() = 3; analyse() = 4; "
                + "start() = done; step(0) = 1; step(0) = 1; step(1) = 2; edgeFrequency(0) = 1; "
                + "edgeFrequency(1) = 1; edgeFrequency(2) = 1");
    }

    // The last path, 199, visits d alone: from the start link of ed to the end link of dc.
    private static void twoHundredPaths() {
        Script.play("24 to 27: 200 paths", Graphs.PATHS_200 + "count(199) = 0; "
                + "count(200) = throws IndexOutOfBoundsException; share(199) = 0.0; "
                + "share(200) = throws IndexOutOfBoundsException; pathLength(199) = 1; "
                + "pathNode(199, 0) = 3; pathEdge(199, false) = 16; pathEdge(199, true) = 13; "
                + "start() = done; step(0) = 1; step(0) = 2; step(0) = 3; step(0) = 4; "
                + "step(2) = 3; step(2) = 2; count(199) = 1; step(0) = 3; step(0) = 4; "
                + "step(2) = 3; step(2) = 2; count(199) = 2; hottest() = 199; share(199) = 0.5; "
                + "edgeFrequency(16) = 2; edgeFrequency(13) = 2; edgeFrequency(2) = 2");
    }

    public static void main(String[] args) {
        unanswered("24 to 27: no analysis", "");
        unanswered("24 to 27: a graph that cannot be analysed", "setNodes(3) = done; "
                + "addEdge(0, 2) = 0; analyse() = 0; ");
        unanswered("24 to 27: 201 paths", Graphs.PATHS_201);
        count();
        share();
        hottest();
        edgeFrequency();
        twoHundredPaths();
        Script.end();
    }
}
