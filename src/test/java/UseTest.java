import java.lang.reflect.Array;
import java.lang.reflect.Field;
import java.lang.reflect.Modifier;
import java.util.Collections;
import java.util.IdentityHashMap;
import java.util.Set;

/** "What it is": an object answers 512 calls, and what it keeps for them does not grow. */
public final class UseTest {
    private static final int PROMISED_CALLS = 512;
    // The room of all calls of one run, a hundredth of it for one object.
    private static final int MAX_OBJECTS = 6_000;
    private static final int MAX_FIELDS = 73_000;

    private final Set<Object> seen = Collections.newSetFromMap(new IdentityHashMap<>());
    private int fields = 0;

    /**
     * An object that goes round a loop until 511 calls are made: 10 of append, then load, analyse,
     * start, a step to the loop and 497 steps round it.
     */
    private static Script usedButForOneCall() {
        Script script = new Script("512 calls").write("c:ab,bb,bc");
        script.ask("load()");
        script.ask("analyse()");
        script.ask("start()");
        for (int step = 14; step < PROMISED_CALLS; step++) {
            script.ask("step(0)");
        }
        return script;
    }

    private static void last(String call, String want) {
        Script.due("the 512th call, " + call, usedButForOneCall().ask(call), want);
    }

    // The first round counts path 1 and leaves the register at 2; each other counts path 3.
    private static void lastCalls() {
        last("setNodes(12)", "done");
        last("setNodes(13)", "throws IllegalArgumentException");
        last("addEdge(0, 2)", "3");
        last("addEdge(0, 1)", "throws IllegalArgumentException");
        last("setWeight(2, 99)", "1");
        last("setWeight(3, 99)", "throws IndexOutOfBoundsException");
        last("edgeCount()", "3");
        last("append(97)", "1");
        last("clearInput()", "0");
        last("firstError()", "0");
        last("load()", "throws IllegalStateException");
        last("analyse()", "4");
        last("pathsFrom(0)", "4");
        last("isBack(1)", "true");
        last("value(1, false)", "2");
        last("increment(1, false)", "2");
        last("chords(false)", "3");
        last("pathLength(3)", "1");
        last("pathNode(3, 0)", "1");
        last("pathEdge(3, true)", "1");
        last("findPath()", "-1");
        last("start()", "done");
        last("step(1)", "2");
        last("step(2)", "throws IndexOutOfBoundsException");
        last("current()", "1");
        last("register()", "2");
        last("count(3)", "496");
        last("share(1)", String.valueOf(1.0 / 497));
        last("hottest()", "3");
        last("edgeFrequency(1)", "497");
        Script.due("the 512th call, digest()", usedButForOneCall().ask("digest()"), digestDue());
    }

    private static long digestDue() {
        int[] values = {3, 3, 0, 1, 1, 1, 1, 1, 1, 2, 1, 1, 4, 2, 1, 0, 0, 0, 0, 0, 1, 2, 2, 1, 1,
            0, 0, 0, 0, 0, 3, 3, 0, 1, 0, 496, 1, 2, 3, 0};
        long hash = 1831;
        for (int value : values) {
            hash = 31 * hash + value;
        }
        return hash;
    }

    private void look(Object object) throws IllegalAccessException {
        if (object == null || !seen.add(object)) {
            return;
        }
        if (object.getClass().isArray()) {
            fields += Array.getLength(object);
            return;
        }
        for (Field field : object.getClass().getDeclaredFields()) {
            if (!Modifier.isStatic(field.getModifiers())) {
                fields++;
                field.setAccessible(true);
                if (!field.getType().isPrimitive()) {
                    look(field.get(object));
                }
            }
        }
    }

    private static String roomOf(PathProfiler profiler) throws IllegalAccessException {
        UseTest room = new UseTest();
        room.look(profiler);
        boolean isSmall = room.seen.size() <= MAX_OBJECTS && room.fields <= MAX_FIELDS;
        return room.seen.size() + " objects, " + room.fields + " fields"
                + (isSmall ? "" : ", which is too much");
    }

    private static void room() throws IllegalAccessException {
        PathProfiler profiler = new PathProfiler();
        String before = roomOf(profiler);
        Script.due("the room: " + before, before.contains("too much"), false);
        Script script = new Script("room", profiler).then(Graphs.PATHS_200 + "start() = done; "
                + "step(0) = 1; text(abc)");
        for (String call : new String[] {"firstError()", "findPath()", "pathLength(199)",
            "pathNode(199, 0)", "pathEdge(199, true)", "share(0)", "hottest()",
            "edgeFrequency(0)"}) {
            script.ask(call);
        }
        Script.due("the room after a run", roomOf(profiler), before);
    }

    public static void main(String[] args) throws IllegalAccessException {
        lastCalls();
        room();
        Script.end();
    }
}
