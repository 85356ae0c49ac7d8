/** Promise 28: digest. The values are written out as the document lists them. */
public final class DigestTest {
    private static long hash(int... values) {
        long hash = 1831;
        for (int x : values) {
            hash = 31 * hash + x;
        }
        return hash;
    }

    private static void due(String title, String calls, int... values) {
        Script script = new Script(title).then(calls);
        long want = hash(values);
        script.then("digest() = " + want + "; digest() = " + want);
    }

    public static void main(String[] args) {
        due("28: a new object", "", 2, 0, 0, -1, 0, -1, 0);
        due("28: the buffer", "text(b:~)", 2, 0, 0, -1, 0, -1, 3, 98, 58, 126);
        due("28: a graph without an analysis", "setNodes(3) = done; addEdge(0, 1) = 0; "
                + "addEdge(1, 2) = 1; setWeight(1, 70) = 1",
                3, 2, 0, 1, 1, 1, 2, 70, 0, -1, 0, -1, 0);
        due("28: one edge, analysed", "addEdge(0, 1) = 0; analyse() = 1",
                2, 1, 0, 1, 1, 1, 1, 1, 0, 0, 0, 0, 0, 1, 1, 0, -1, 0, -1, 0);
        due("28: a walk that has begun", "addEdge(0, 1) = 0; analyse() = 1; start() = done",
                2, 1, 0, 1, 1, 1, 1, 1, 0, 0, 0, 0, 0, 1, 1, 0, 0, 0, -1, 0);
        due("28: a walk that is over", "addEdge(0, 1) = 0; analyse() = 1; start() = done; "
                + "step(0) = 1; text(a)",
                2, 1, 0, 1, 1, 1, 1, 1, 0, 0, 0, 0, 0, 1, 1, 1, 1, 0, 0, 1, 97);
        due("28: a loop with a heavy back edge, and a walk", "text(c:ab,bb,bc); load() = 3; "
                + "setWeight(1, 9) = 1; analyse() = 4; start() = done; step(0) = 1; step(0) = 1",
                3, 3, 0, 1, 1, 1, 1, 9, 1, 2, 1, 1,
                4, 2, 1,
                0, 0, 1, 0, 1,
                1, 2, 3, 1, 0,
                0, 0, -1, 0, -1,
                3, 11,
                0, 1, 0, 0,
                1, 3, 1, 0);
        due("28: discarded", "text(c:ab,bb,bc); load() = 3; analyse() = 4; start() = done; "
                + "step(0) = 1; step(0) = 1; setWeight(1, 9) = 1",
                3, 3, 0, 1, 1, 1, 1, 9, 1, 2, 1, 0, -1, 0, -1, 0);
        moreThan200Paths();
        Script.end();
    }

    // With 201 paths the counts are left out; Reference says the rest.
    private static void moreThan200Paths() {
        Script reference = new Script("28: reference", new Reference()).then(Graphs.PATHS_201);
        Script.play("28: 201 paths", Graphs.PATHS_201 + "digest() = " + reference.ask("digest()"));
    }
}
