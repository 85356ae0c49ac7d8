import java.lang.reflect.InvocationTargetException;
import java.lang.reflect.Method;

/**
 * Plays calls on a new PathProfiler, written as the document writes its examples: "setNodes(4) =
 * done; addEdge(0, 1) = 0; addEdge(3, 0) = throws IllegalArgumentException". The call text(..) is
 * not one of the class: it appends each of the characters between the parentheses.
 *
 * <p>Beside the answers it looks at the digest: a call that throws, or that only asks, must leave
 * it as it was.
 */
final class Script {
    private static final String CHANGERS =
            " setNodes addEdge setWeight append clearInput load analyse start step ";

    private final String title;
    private final PathProfiler profiler = new PathProfiler();
    private static int wrong = 0;
    private static int calls = 0;

    Script(String title) {
        this.title = title;
    }

    static void play(String title, String calls) {
        new Script(title).then(calls);
    }

    /** Ends the test, with exit code 1 if an answer was not as due. */
    static void end() {
        System.out.println(calls + " calls, " + wrong + " answers not as due");
        if (wrong != 0) {
            System.exit(1);
        }
    }

    static void due(String what, Object got, Object want) {
        calls++;
        if (!String.valueOf(got).equals(String.valueOf(want))) {
            wrong++;
            System.out.println(what + " answered " + got + ", due is " + want);
        }
    }

    Script then(String rows) {
        for (String row : rows.split(";")) {
            if (!row.isBlank()) {
                playRow(row.strip());
            }
        }
        return this;
    }

    /** Appends a text that has signs which a row can't have. */
    Script write(String text) {
        for (char sign : text.toCharArray()) {
            profiler.append(sign);
        }
        return this;
    }

    long digest() {
        return profiler.digest();
    }

    private void playRow(String row) {
        if (row.startsWith("text(")) {
            write(row.substring(5, row.length() - 1));
            return;
        }
        int equals = row.lastIndexOf(" = ");
        String call = row.substring(0, equals);
        String want = row.substring(equals + 3);
        int open = call.indexOf('(');
        String name = call.substring(0, open);
        String inside = call.substring(open + 1, call.length() - 1).strip();
        long before = profiler.digest();
        String got = answer(name, inside.isEmpty() ? new String[0] : inside.split(", *"));
        due(title + ": " + call, got, want);
        if (got.startsWith("throws ") || !CHANGERS.contains(" " + name + " ")) {
            due(title + ": digest after " + call, profiler.digest(), before);
        }
    }

    private String answer(String name, String[] arguments) {
        try {
            Method method = find(name);
            Object[] values = new Object[arguments.length];
            for (int i = 0; i < values.length; i++) {
                values[i] = method.getParameterTypes()[i] == boolean.class
                        ? (Object) Boolean.valueOf(arguments[i])
                        : (Object) Integer.valueOf(arguments[i]);
            }
            Object result = method.invoke(profiler, values);
            return method.getReturnType() == void.class ? "done" : String.valueOf(result);
        } catch (InvocationTargetException e) {
            return "throws " + e.getCause().getClass().getSimpleName();
        } catch (IllegalAccessException e) {
            throw new AssertionError(e);
        }
    }

    private static Method find(String name) {
        for (Method method : PathProfiler.class.getDeclaredMethods()) {
            if (method.getName().equals(name)) {
                return method;
            }
        }
        throw new AssertionError("no method " + name);
    }
}
