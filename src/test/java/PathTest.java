/** Promises 16 to 19: pathLength, pathNode, pathEdge and findPath. */
public final class PathTest {
    // Paths: 0 abc and end of cb; 1 abd; 2 start of cb, bc, end of cb; 3 start of cb, bd.
    private static final String LOOP = "text(d:ab,bc,cb,bd); load() = 4; analyse() = 4; ";
    private static final String[] LOOP_PATHS = {"abc", "abd", "bc", "bd"};

    private static void askWithoutAnalysis() {
        Script.play("16 to 19: no analysis", "pathLength(0) = throws IllegalStateException; "
                + "pathLength(-1) = throws IllegalStateException; "
                + "pathNode(0, 0) = throws IllegalStateException; "
                + "pathNode(-1, -1) = throws IllegalStateException; "
                + "pathEdge(0, true) = throws IllegalStateException; "
                + "pathEdge(5, false) = throws IllegalStateException; "
                + "findPath() = throws IllegalStateException; text(ab); "
                + "findPath() = throws IllegalStateException; clearInput() = 2");
        Script.play("16 to 19: an analysis that was discarded", LOOP + "setWeight(0, 2) = 1; "
                + "pathLength(0) = throws IllegalStateException; "
                + "pathNode(0, 0) = throws IllegalStateException; "
                + "pathEdge(0, true) = throws IllegalStateException; "
                + "findPath() = throws IllegalStateException");
    }

    private static void nodes(String title, String before, String[] paths) {
        Script script = new Script(title).then(before);
        for (int path = 0; path < paths.length; path++) {
            int length = paths[path].length();
            script.then("pathLength(" + path + ") = " + length);
            for (int index = 0; index < length; index++) {
                script.then("pathNode(" + path + ", " + index + ") = "
                        + (paths[path].charAt(index) - 'a'));
            }
            for (int index : new int[] {-1, length, Integer.MIN_VALUE, Integer.MAX_VALUE}) {
                script.then("pathNode(" + path + ", " + index
                        + ") = throws IndexOutOfBoundsException");
            }
        }
        for (int path : new int[] {-1, paths.length, Integer.MIN_VALUE, Integer.MAX_VALUE}) {
            script.then("pathLength(" + path + ") = throws IndexOutOfBoundsException; "
                    + "pathNode(" + path + ", 0) = throws IndexOutOfBoundsException; "
                    + "pathEdge(" + path + ", true) = throws IndexOutOfBoundsException; "
                    + "pathEdge(" + path + ", false) = throws IndexOutOfBoundsException");
        }
    }

    private static void pathLengthAndNode() {
        nodes("16 and 17: a loop", LOOP, LOOP_PATHS);
        nodes("16 and 17: an edge to itself", "text(c:ab,bb,bc); load() = 3; analyse() = 4; ",
                new String[] {"abc", "ab", "bc", "b"});
        nodes("16 and 17: one edge", "addEdge(0, 1) = 0; analyse() = 1; ", new String[] {"ab"});
        nodes("16 and 17: forward edges in the order of the edges",
                "text(d:ac,ab,ad,bc,cd); load() = 5; analyse() = 3; ",
                new String[] {"acd", "abcd", "ad"});
        nodes("16 and 17: two back edges",
                "text(d:ab,bc,cb,cc,bd); load() = 5; analyse() = 8; ",
                new String[] {"abc", "abc", "abd", "bc", "bc", "bd", "c", "c"});
    }

    private static void pathEdge() {
        Script.play("18: a loop", LOOP + "pathEdge(0, true) = 2; pathEdge(0, false) = -1; "
                + "pathEdge(1, true) = -1; pathEdge(1, false) = -1; pathEdge(2, true) = 2; "
                + "pathEdge(2, false) = 2; pathEdge(3, true) = -1; pathEdge(3, false) = 2");
        Script.play("18: two back edges", "text(d:ab,bc,cb,cc,bd); load() = 5; analyse() = 8; "
                + "pathEdge(0, true) = 2; pathEdge(1, true) = 3; pathEdge(2, true) = -1; "
                + "pathEdge(4, false) = 2; pathEdge(4, true) = 3; pathEdge(6, false) = 3; "
                + "pathEdge(6, true) = 2; pathEdge(7, true) = 3; pathEdge(7, false) = 3");
    }

    private static void find(Script script, String text, int want) {
        script.write(text).then("findPath() = " + want + "; clearInput() = " + text.length());
    }

    private static void findPath() {
        Script loop = new Script("19: a loop").then(LOOP);
        for (int path = 0; path < LOOP_PATHS.length; path++) {
            find(loop, LOOP_PATHS[path], path);
        }
        for (String none : new String[] {"", "a", "b", "c", "d", "ab", "ac", "ad", "cb", "bcb",
            "abcb", "abcbd", "cbd", "abdd", "abc ", " abc", "ABC", "`abc", "abc`", "`", "`b", "z",
            "abe", "eb", "a,b,c", "~", "abcd"}) {
            find(loop, none, -1);
        }
        Script two = new Script("19: the lowest of several").then(
                "text(d:ab,bc,cb,cc,bd); load() = 5; analyse() = 8");
        find(two, "abc", 0);
        find(two, "bc", 3);
        find(two, "c", 6);
        find(two, "bd", 5);
        find(two, "cb", -1);
        Script same = new Script("19: several back edges to one node").then(
                "text(d:ab,bc,cb,bb,cd); load() = 5; analyse() = 9");
        find(same, "b", 5);
        find(same, "bcd", 3);
        find(same, "bc", 4);
        find(same, "ab", 2);
        Script many = new Script("19: more than 200 paths").then(
                "text(h:ab,bc,cd,de,ef,fg,gh,fb,gb,gf,fc,cc,gd,df,cf,bd,be,fe); load() = 18; "
                + "analyse() = 201");
        find(many, "abcdefgh", 0);
        find(many, "hgf", -1);
    }

    public static void main(String[] args) {
        askWithoutAnalysis();
        pathLengthAndNode();
        pathEdge();
        findPath();
        Script.end();
    }
}
