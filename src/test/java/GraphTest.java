/** Promises 1 to 5: the new object, setNodes, addEdge, setWeight and edgeCount. */
public final class GraphTest {
    private static final String LOOP = "text(c:ab,bb,bc); load() = 3; analyse() = 4; "
            + "start() = done; step(0) = 1; step(0) = 1; step(1) = 2; ";
    private static final String DISCARDED = "pathsFrom(0) = throws IllegalStateException; "
            + "isBack(0) = throws IllegalStateException; "
            + "count(0) = throws IllegalStateException; step(0) = throws IllegalStateException; "
            + "current() = -1; register() = 0; hottest() = -1; ";

    private static void newObject() {
        Script.due("NONE", PathProfiler.NONE, -1);
        Script.play("1: a new object", "edgeCount() = 0; firstError() = 0; clearInput() = 0; "
                + "load() = throws IllegalStateException; analyse() = 0; " + DISCARDED
                + "addEdge(0, 2) = throws IllegalArgumentException; "
                + "addEdge(1, 1) = throws IllegalArgumentException; addEdge(0, 1) = 0; "
                + "analyse() = 1; pathsFrom(1) = 1; "
                + "pathsFrom(2) = throws IndexOutOfBoundsException");
    }

    private static void setNodes() {
        for (String n : new String[] {"1", "13", "0", "-1", "-2147483648", "2147483647"}) {
            Script.play("2: setNodes of a wrong number", LOOP
                    + "setNodes(" + n + ") = throws IllegalArgumentException; edgeCount() = 3; "
                    + "hottest() = 1; current() = 2");
        }
        Script.play("2: setNodes replaces and discards", LOOP + "setNodes(3) = done; "
                + "edgeCount() = 0; " + DISCARDED + "addEdge(0, 1) = 0; addEdge(1, 2) = 1; "
                + "setWeight(1, 5) = 1; analyse() = 1; hottest() = -1; count(0) = 0");
        Script.play("2: a graph with weights replaced", "addEdge(0, 1) = 0; "
                + "setWeight(0, 50) = 1; setNodes(2) = done; addEdge(0, 1) = 0; "
                + "setWeight(0, 50) = 1");
        Script.play("2: 2 nodes", "setNodes(2) = done; addEdge(0, 1) = 0; "
                + "addEdge(0, 2) = throws IllegalArgumentException");
        Script.play("2: 12 nodes", "setNodes(12) = done; addEdge(0, 11) = 0; addEdge(10, 11) = 1; "
                + "addEdge(0, 12) = throws IllegalArgumentException; "
                + "addEdge(11, 1) = throws IllegalArgumentException");
        Script.play("2: the buffer is kept", "text(b:ab); setNodes(5) = done; clearInput() = 4");
    }

    private static void addEdge() {
        Script.play("3: edges that are not allowed", "setNodes(4) = done; addEdge(1, 2) = 0; "
                + "addEdge(-1, 2) = throws IllegalArgumentException; "
                + "addEdge(4, 2) = throws IllegalArgumentException; "
                + "addEdge(1, -1) = throws IllegalArgumentException; "
                + "addEdge(1, 4) = throws IllegalArgumentException; "
                + "addEdge(2147483647, -2147483648) = throws IllegalArgumentException; "
                + "addEdge(3, 1) = throws IllegalArgumentException; "
                + "addEdge(3, 3) = throws IllegalArgumentException; "
                + "addEdge(1, 0) = throws IllegalArgumentException; "
                + "addEdge(0, 0) = throws IllegalArgumentException; "
                + "addEdge(1, 2) = throws IllegalArgumentException; edgeCount() = 1; "
                + "addEdge(2, 1) = 1; addEdge(1, 1) = 2; addEdge(0, 3) = 3; "
                + "addEdge(1, 1) = throws IllegalArgumentException; edgeCount() = 4");
        Script.play("3: addEdge discards", LOOP + "addEdge(0, 2) = 3; " + DISCARDED);
        Script.play("3: addEdge that throws keeps all", LOOP
                + "addEdge(0, 1) = throws IllegalArgumentException; hottest() = 1; "
                + "current() = 2; count(1) = 1");
        Script full = new Script("3: 24 edges").then("setNodes(6) = done");
        int edge = 0;
        for (int from = 0; from < 5; from++) {
            for (int to = 1; to < 6 && edge < 24; to++) {
                full.then("addEdge(" + from + ", " + to + ") = " + edge);
                edge++;
            }
        }
        full.then("edgeCount() = 24; addEdge(4, 5) = throws IllegalStateException; "
                + "addEdge(4, 4) = throws IllegalArgumentException; "
                + "addEdge(5, 4) = throws IllegalArgumentException; "
                + "addEdge(4, 0) = throws IllegalArgumentException; "
                + "addEdge(6, 1) = throws IllegalArgumentException; edgeCount() = 24; "
                + "setWeight(23, 7) = 1; setWeight(24, 7) = throws IndexOutOfBoundsException; "
                + "analyse() = 238; setNodes(6) = done; addEdge(4, 5) = 0");
    }

    private static void setWeight() {
        Script.play("4: weights", "addEdge(0, 1) = 0; setWeight(0, 99) = 1; setWeight(0, 0) = 99; "
                + "setWeight(0, 42) = 0; setWeight(0, 42) = 42; "
                + "setWeight(0, 100) = throws IllegalArgumentException; "
                + "setWeight(0, -1) = throws IllegalArgumentException; "
                + "setWeight(0, 2147483647) = throws IllegalArgumentException; "
                + "setWeight(1, 5) = throws IndexOutOfBoundsException; "
                + "setWeight(-1, 5) = throws IndexOutOfBoundsException; "
                + "setWeight(1, 100) = throws IndexOutOfBoundsException; "
                + "setWeight(-2147483648, -1) = throws IndexOutOfBoundsException; "
                + "setWeight(0, 1) = 42");
        Script.play("4: no edges", "setWeight(0, 5) = throws IndexOutOfBoundsException");
        Script.play("4: setWeight discards, even with the same weight", LOOP
                + "setWeight(1, 1) = 1; edgeCount() = 3; " + DISCARDED);
        Script.play("4: setWeight that throws keeps all", LOOP
                + "setWeight(3, 1) = throws IndexOutOfBoundsException; "
                + "setWeight(2, 100) = throws IllegalArgumentException; hottest() = 1; "
                + "current() = 2");
    }

    private static void edgeCount() {
        Script.play("5: edgeCount", "edgeCount() = 0; addEdge(0, 1) = 0; edgeCount() = 1; "
                + "addEdge(0, 1) = throws IllegalArgumentException; edgeCount() = 1; "
                + "text(d:ab,bc,cb,bd); edgeCount() = 1; load() = 4; edgeCount() = 4; "
                + "setNodes(2) = done; edgeCount() = 0");
    }

    public static void main(String[] args) {
        newObject();
        setNodes();
        addEdge();
        setWeight();
        edgeCount();
        Script.end();
    }
}
