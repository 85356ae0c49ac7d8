/** Promises 20 to 23: start, step, current and register. */
public final class WalkTest {
    private static final String LOOP = "text(d:ab,bc,cb,bd); load() = 4; analyse() = 4; ";

    private static void start() {
        Script.play("20: no analysis", "start() = throws IllegalStateException; current() = -1; "
                + "register() = 0; addEdge(0, 1) = 0; start() = throws IllegalStateException; "
                + "analyse() = 1; start() = done; current() = 0; register() = 0");
        Script.play("20: 200 paths", Graphs.PATHS_200 + "start() = done; current() = 0");
        Script.play("20: 201 paths", Graphs.PATHS_201 + "start() = throws IllegalStateException; "
                + "current() = -1; register() = 0; step(0) = throws IllegalStateException; "
                + "hottest() = -1");
        Script.play("20: a walk that is given up", LOOP + "start() = done; step(0) = 1; "
                + "step(0) = 2; step(0) = 1; count(0) = 1; register() = 2; start() = done; "
                + "current() = 0; register() = 0; count(0) = 1; count(2) = 0; hottest() = 0");
        Script.play("20: a second walk", LOOP + "start() = done; step(0) = 1; step(1) = 3; "
                + "start() = done; step(0) = 1; step(1) = 3; count(1) = 2; register() = 1");
    }

    private static void step() {
        Script.play("21: no walk", LOOP + "step(0) = throws IllegalStateException; "
                + "step(-1) = throws IllegalStateException; "
                + "step(9) = throws IllegalStateException");
        Script.play("21: indexes", LOOP + "start() = done; "
                + "step(1) = throws IndexOutOfBoundsException; "
                + "step(-1) = throws IndexOutOfBoundsException; "
                + "step(-2147483648) = throws IndexOutOfBoundsException; "
                + "step(2147483647) = throws IndexOutOfBoundsException; current() = 0; "
                + "step(0) = 1; step(2) = throws IndexOutOfBoundsException; step(0) = 2; "
                + "step(1) = throws IndexOutOfBoundsException; step(0) = 1; step(1) = 3; "
                + "step(0) = throws IllegalStateException; "
                + "step(-1) = throws IllegalStateException; current() = 3");
        Script.play("21: forward and back edges together", "text(c:ab,bb,bc); load() = 3; "
                + "analyse() = 4; start() = done; step(0) = 1; step(0) = 1; step(0) = 1; "
                + "step(1) = 2; count(1) = 1; count(3) = 1; count(2) = 1; count(0) = 0");
        Script.play("21: the order of the edges, not of the nodes", "text(d:ac,ab,bd,cd,cb); "
                + "load() = 5; analyse() = 3; start() = done; step(0) = 2; step(1) = 1; "
                + "step(0) = 3; count(1) = 1");
    }

    private static void current() {
        Script.play("22: current", LOOP + "current() = -1; start() = done; current() = 0; "
                + "step(0) = 1; current() = 1; step(0) = 2; current() = 2; step(0) = 1; "
                + "current() = 1; step(1) = 3; current() = 3; text(x); current() = 3; "
                + "analyse() = 4; current() = -1");
    }

    private static void register() {
        // Increments: ab 0, bc 0, bd 1, end of cb 0, start of cb 2.
        Script.play("23: register", LOOP + "register() = 0; start() = done; register() = 0; "
                + "step(0) = 1; register() = 0; step(0) = 2; register() = 0; step(0) = 1; "
                + "register() = 2; step(0) = 2; register() = 2; step(0) = 1; register() = 2; "
                + "step(1) = 3; register() = 3; step(0) = throws IllegalStateException; "
                + "register() = 3; start() = done; register() = 0; step(0) = 1; step(1) = 3; "
                + "register() = 1; analyse() = 4; register() = 0");
        // Increments: ab 1, bc 0, bd 0, end of cb -1, start of cb 3.
        Script.play("23: register with other increments", LOOP + "setWeight(3, 2) = 1; "
                + "analyse() = 4; start() = done; step(0) = 1; register() = 1; step(0) = 2; "
                + "register() = 1; step(0) = 1; register() = 3; step(0) = 2; step(0) = 1; "
                + "register() = 3; step(1) = 3; register() = 3; count(0) = 1; count(2) = 1; "
                + "count(3) = 1; count(1) = 0");
        // Increments: ab 1, bc -1, end of bb 0, start of bb 3.
        Script.play("23: a negative increment", "text(c:ab,bb,bc); load() = 3; "
                + "setWeight(1, 9) = 1; analyse() = 4; start() = done; step(0) = 1; "
                + "register() = 1; step(1) = 2; register() = 0; count(0) = 1");
    }

    public static void main(String[] args) {
        start();
        step();
        current();
        register();
        Script.end();
    }
}
