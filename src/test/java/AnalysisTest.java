/** Promises 10 to 15: analyse, pathsFrom, isBack, value, increment and chords. */
public final class AnalysisTest {
    private static final String NO_ANALYSIS = "pathsFrom(0) = throws IllegalStateException; "
            + "pathsFrom(-1) = throws IllegalStateException; "
            + "isBack(0) = throws IllegalStateException; "
            + "isBack(99) = throws IllegalStateException; "
            + "value(0, true) = throws IllegalStateException; "
            + "value(-1, false) = throws IllegalStateException; "
            + "increment(0, true) = throws IllegalStateException; "
            + "increment(24, true) = throws IllegalStateException; "
            + "chords(true) = throws IllegalStateException; "
            + "chords(false) = throws IllegalStateException; ";
    // Links, in the order of the successors: a: ab 0, start of cb 2; b: bc 0, bd 1; c: end of cb 0.
    // Tree: the connection of d and a, ab, bc; so bd and both links of cb are chords.
    private static final String LOOP = "text(d:ab,bc,cb,bd); load() = 4; ";

    private static void cannotBeAnalysed(String what, String calls) {
        Script.play("10: " + what, calls + "analyse() = 0; " + NO_ANALYSIS + "analyse() = 0");
    }

    private static void analyse() {
        cannotBeAnalysed("no edges", "");
        cannotBeAnalysed("a node is not reached", "text(c:ac,bc); load() = 2; ");
        cannotBeAnalysed("the exit is not reached", "text(c:ab,bb); load() = 2; ");
        cannotBeAnalysed("a node does not lead to the exit", "text(d:ab,bd,bc,cc); load() = 4; ");
        cannotBeAnalysed("a circle that does not lead to the exit",
                "text(e:ab,be,bc,cd,dc); load() = 5; ");
        cannotBeAnalysed("a circle that is not reached", "text(e:ae,bc,cd,db,de); load() = 5; ");
        Script.play("10: an analysis is discarded", LOOP + "analyse() = 4; start() = done; "
                + "step(0) = 1; step(1) = 3; hottest() = 1; analyse() = 4; hottest() = -1; "
                + "current() = -1; register() = 0; count(1) = 0; "
                + "step(0) = throws IllegalStateException; start() = done; step(0) = 1");
        Script.play("10: an unfit graph behind a fit one", LOOP + "analyse() = 4; "
                + "setNodes(3) = done; addEdge(0, 2) = 0; analyse() = 0; " + NO_ANALYSIS
                + "addEdge(0, 1) = 1; addEdge(1, 2) = 2; analyse() = 2");
        // The exit is reached backwards through many rounds: each edge comes before the next.
        Script.play("10: a long way", "text(l:ab,bc,cd,de,ef,fg,gh,hi,ij,jk,kl); load() = 11; "
                + "analyse() = 1; pathLength(0) = 12");
        Script.play("10: a long way, told backwards", "text(l:kl,jk,ij,hi,gh,fg,ef,de,cd,bc,ab); "
                + "load() = 11; analyse() = 1; pathLength(0) = 12");
    }

    private static void pathsFrom() {
        Script.play("11: a loop", LOOP + "analyse() = 4; pathsFrom(0) = 4; pathsFrom(1) = 2; "
                + "pathsFrom(2) = 1; pathsFrom(3) = 1; "
                + "pathsFrom(4) = throws IndexOutOfBoundsException; "
                + "pathsFrom(-1) = throws IndexOutOfBoundsException; "
                + "pathsFrom(2147483647) = throws IndexOutOfBoundsException; "
                + "pathsFrom(-2147483648) = throws IndexOutOfBoundsException");
        Script.play("11: diamonds", "text(g:ab,ac,bd,cd,de,df,eg,fg); load() = 8; analyse() = 4; "
                + "pathsFrom(0) = 4; pathsFrom(1) = 2; pathsFrom(3) = 2; pathsFrom(4) = 1; "
                + "pathsFrom(6) = 1");
        // c is left before the search comes to the exit d.
        Script.play("11: an end link before the exit is reached", "text(d:ab,bc,cb,cc,bd); "
                + "load() = 5; analyse() = 8; pathsFrom(2) = 2; pathsFrom(1) = 3");
    }

    private static void isBack() {
        Script.play("12: a loop", LOOP + "analyse() = 4; isBack(0) = false; isBack(1) = false; "
                + "isBack(2) = true; isBack(3) = false; "
                + "isBack(4) = throws IndexOutOfBoundsException; "
                + "isBack(-1) = throws IndexOutOfBoundsException");
        Script.play("12: the order of the edges decides", "text(d:ab,ac,bc,cb,bd); load() = 5; "
                + "analyse() = 5; isBack(2) = false; isBack(3) = true");
        Script.play("12: the order of the edges decides, the other way", "text(d:ac,ab,bc,cb,bd); "
                + "load() = 5; analyse() = 6; isBack(2) = true; isBack(3) = false");
        Script.play("12: an edge to a node that was left is forward", "text(d:ab,ac,bd,cb); "
                + "load() = 4; analyse() = 2; isBack(3) = false");
        Script.play("12: an edge to itself", "text(c:ab,bb,bc); load() = 3; analyse() = 4; "
                + "isBack(1) = true");
        Script.play("12: a back edge does not stay one", "text(c:ab,bb,bc); load() = 3; "
                + "analyse() = 4; text(c:ab,ac,bc); load() = 3; analyse() = 2; isBack(1) = false");
    }

    private static void value() {
        Script.play("13: a loop", LOOP + "analyse() = 4; value(0, false) = 0; value(0, true) = 0; "
                + "value(1, true) = 0; value(2, true) = 0; value(2, false) = 2; "
                + "value(3, true) = 1; value(3, false) = 1; "
                + "value(4, true) = throws IndexOutOfBoundsException; "
                + "value(-1, false) = throws IndexOutOfBoundsException");
        // b: bc 0, bd 1, be 2, end of bb 3; a: ab 0, then the starts of bb, cb and db.
        Script.play("13: successors in their order", "text(e:ab,bb,bc,cb,bd,db,be); load() = 7; "
                + "analyse() = 16; value(2, true) = 0; value(4, true) = 1; value(6, true) = 2; "
                + "value(1, true) = 3; value(3, true) = 0; value(5, true) = 0; "
                + "value(0, true) = 0; value(1, false) = 4; value(3, false) = 8; "
                + "value(5, false) = 12");
        Script.play("13: end links behind later forward edges", "text(c:ab,bb,bc); load() = 3; "
                + "analyse() = 4; value(2, true) = 0; value(1, true) = 1; value(1, false) = 2");
    }

    private static void increment() {
        Script.play("14: a loop", LOOP + "analyse() = 4; increment(0, true) = 0; "
                + "increment(0, false) = 0; increment(1, true) = 0; increment(3, true) = 1; "
                + "increment(2, true) = 0; increment(2, false) = 2; "
                + "increment(4, true) = throws IndexOutOfBoundsException; "
                + "increment(-1, true) = throws IndexOutOfBoundsException");
        Script.play("14: weights decide", LOOP + "setWeight(3, 2) = 1; analyse() = 4; "
                + "increment(3, true) = 0; increment(0, true) = 1; increment(1, true) = 0; "
                + "increment(2, true) = -1; increment(2, false) = 3");
        // The end link of bb, with the value 1, is in the tree: b has the potential -1.
        Script.play("14: the links of a heavy back edge", "text(c:ab,bb,bc); load() = 3; "
                + "setWeight(1, 9) = 1; analyse() = 4; increment(1, true) = 0; "
                + "increment(1, false) = 3; increment(0, true) = 1; increment(2, true) = -1");
        Script.play("14: end links before start links", "text(c:ab,bb,bc); load() = 3; "
                + "setWeight(0, 0) = 1; setWeight(2, 0) = 1; analyse() = 4; "
                + "increment(1, true) = 0; increment(1, false) = 3; increment(0, true) = 1; "
                + "increment(2, true) = -1");
        Script.play("14: forward edges before end links", "text(c:ab,bb,bc); load() = 3; "
                + "analyse() = 4; increment(0, true) = 0; increment(2, true) = 0; "
                + "increment(1, true) = 1; increment(1, false) = 2");
        Script.play("14: an edge from the entry to the exit is a chord", "addEdge(0, 1) = 0; "
                + "analyse() = 1; increment(0, true) = 0; chords(false) = 1; chords(true) = 1");
    }

    private static void chords() {
        Script.play("15: a loop", LOOP + "analyse() = 4; chords(false) = 3; chords(true) = 3; "
                + "setWeight(0, 10) = 1; setWeight(1, 20) = 1; setWeight(2, 30) = 1; "
                + "setWeight(3, 40) = 1; analyse() = 4; chords(false) = 3; chords(true) = 60");
        Script.play("15: weights of 0 and 99", LOOP + "setWeight(0, 0) = 1; setWeight(1, 0) = 1; "
                + "setWeight(2, 99) = 1; setWeight(3, 0) = 1; analyse() = 4; chords(false) = 3; "
                + "chords(true) = 0");
        Script.play("15: chords are counted afresh", LOOP + "analyse() = 4; analyse() = 4; "
                + "chords(false) = 3; chords(true) = 3");
    }

    public static void main(String[] args) {
        analyse();
        pathsFrom();
        isBack();
        value();
        increment();
        chords();
        Script.end();
    }
}
