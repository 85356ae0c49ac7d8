/** Promises 6 to 9: append, clearInput, firstError and load. */
public final class InputTest {
    private static void append() {
        Script.play("6: codes", "append(31) = throws IllegalArgumentException; append(32) = 1; "
                + "append(126) = 2; append(127) = throws IllegalArgumentException; "
                + "append(-1) = throws IllegalArgumentException; "
                + "append(2147483647) = throws IllegalArgumentException; "
                + "append(-2147483648) = throws IllegalArgumentException; append(97) = 3; "
                + "clearInput() = 3");
        Script full = new Script("6: 60 characters");
        for (int length = 1; length <= 60; length++) {
            full.then("append(" + (31 + length) + ") = " + length);
        }
        full.then("append(97) = throws IllegalStateException; "
                + "append(31) = throws IllegalArgumentException; "
                + "append(127) = throws IllegalArgumentException; clearInput() = 60; "
                + "append(97) = 1");
        Script.play("6: append keeps the analysis", "addEdge(0, 1) = 0; analyse() = 1; "
                + "start() = done; step(0) = 1; append(97) = 1; count(0) = 1; current() = 1");
    }

    private static void clearInput() {
        Script.play("7: clearInput", "clearInput() = 0; text(c:ab); clearInput() = 4; "
                + "clearInput() = 0; firstError() = 0; text(x); clearInput() = 1");
        Script.play("7: clearInput keeps the analysis", "addEdge(0, 1) = 0; analyse() = 1; "
                + "start() = done; step(0) = 1; text(ab); clearInput() = 2; count(0) = 1; "
                + "current() = 1; edgeCount() = 1");
    }

    private static void error(String text, int want) {
        Script script = new Script("8: " + text).write(text);
        script.then("firstError() = " + want + "; firstError() = " + want);
        if (want < text.length()) {
            script.then("load() = throws IllegalStateException");
        }
        script.then("clearInput() = " + text.length());
    }

    private static void firstError() {
        error("", 0);
        error("d:ab,bc,cb,bd", 13);
        for (String exit : new String[] {"a", "m", "B", "1", ":", " ", "`", "~"}) {
            error(exit, 0);
        }
        for (String exit : new String[] {"b", "l"}) {
            error(exit, 1);
        }
        error("cab", 1);
        error("c;ab", 1);
        error("c,ab", 1);
        error("c:", 2);
        error("c::", 2);
        error("c:,", 2);
        error("c:a", 3);
        error("c:cb", 2);
        error("c:db", 2);
        error("c:bb", 4);
        error("c:aa", 3);
        error("c:a`", 3);
        error("c:`b", 2);
        error("c:ad", 3);
        error("c:ac", 4);
        error("c:a,", 3);
        error("b:ab,ab", 6);
        error("b:ab,a", 6);
        error("c:ab,ac,ab", 9);
        error("c:ab,ba", 6);
        error("c:ab,bb,bb", 9);
        error("c:ab:", 4);
        error("c:abc", 4);
        error("c:ab,", 5);
        error("c:ab,,", 5);
        error("c:ab bc", 4);
        error("l:kl,al,kb", 10);
        error("l:ll", 2);
        error("k:ak,bl", 6);
        error("c:ab,bc,bc,zz", 9);
        error(Graphs.NINETEEN_EDGES, 58);
        error(Graphs.NINETEEN_EDGES + ",b", 60);
        error(Graphs.NINETEEN_EDGES + ",,", 59);
        error(Graphs.NINETEEN_EDGES + ",l", 59);
    }

    private static void load() {
        for (String text : new String[] {"", "c", "c:", "c:a", "c:ab,", "c:ab,b", "C:ab", "c:ab,ab",
            Graphs.NINETEEN_EDGES + ",", Graphs.NINETEEN_EDGES + ",b"}) {
            new Script("9: no graph: " + text).then("addEdge(0, 1) = 0; analyse() = 1; "
                    + "start() = done; step(0) = 1").write(text).then(
                    "load() = throws IllegalStateException; edgeCount() = 1; count(0) = 1; "
                    + "current() = 1; clearInput() = " + text.length());
        }
        Script.play("9: the graph of the document", "text(d:ab,bc,cb,bd); load() = 4; "
                + "clearInput() = 0; edgeCount() = 4; "
                + "addEdge(1, 2) = throws IllegalArgumentException; "
                + "addEdge(3, 1) = throws IllegalArgumentException; analyse() = 4; "
                + "isBack(2) = true; pathsFrom(4) = throws IndexOutOfBoundsException; "
                + "pathsFrom(3) = 1; load() = throws IllegalStateException; pathsFrom(3) = 1");
        Script.play("9: load gives all weights 1, and discards", "text(b:ab); load() = 1; "
                + "setWeight(0, 70) = 1; analyse() = 1; start() = done; step(0) = 1; text(b:ab); "
                + "load() = 1; count(0) = throws IllegalStateException; current() = -1; "
                + "register() = 0; hottest() = -1; setWeight(0, 3) = 1");
        Script.play("9: the greatest graph of a text", "text(" + Graphs.NINETEEN_EDGES + "); "
                + "load() = 19; edgeCount() = 19; addEdge(1, 10) = 19; "
                + "addEdge(1, 9) = throws IllegalArgumentException");
        Script.play("9: fewer nodes than before", "setNodes(12) = done; text(b:ab); load() = 1; "
                + "addEdge(0, 2) = throws IllegalArgumentException; analyse() = 1");
        Script.play("9: firstError leaves the graph alone", "addEdge(0, 1) = 0; text(l:ab,cd); "
                + "firstError() = 7; edgeCount() = 1; analyse() = 1");
    }

    public static void main(String[] args) {
        append();
        clearInput();
        firstError();
        load();
        Script.end();
    }
}
