import java.lang.reflect.InvocationTargetException;
import java.lang.reflect.Method;

/**
 * Plays calls on a new PathProfiler, written as the document writes its examples: "setNodes(4) =
 * done; addEdge(0, 1) = 0; addEdge(3, 0) = throws IllegalArgumentException". The call text(..) is
 * not one of the class: it appends each of the characters between the parentheses.
 *
 * <p>Beside the answers it looks at the digest: a call that throws, or that only asks, must leave
 * it as it was. It also looks that the test keeps to the calls for which the document promises an
 * answer.
 */
final class Script {
    private static final String CHANGERS =
            " setNodes addEdge setWeight append clearInput load analyse start step ";
    private static final int PROMISED_CALLS = 512;

    private final String title;
    private final Object object;
    private int used = 0;
    private static int wrong = 0;
    private static int calls = 0;

    Script(String title) {
        this(title, new PathProfiler());
    }

    /** Plays the calls on another object with the methods of PathProfiler. */
    Script(String title, Object object) {
        this.title = title;
        this.object = object;
    }

    static void play(String title, String calls) {
        new Script(title).then(calls);
    }

    /** Ends the test, with exit code 1 if an answer was not as due. */
    static void end() {
        System.out.println(calls + " calls, " + wrong + " answers not as due");
        if (wrong != 0) {
            System.exit(1);
        }
    }

    static void due(String what, Object got, Object want) {
        calls++;
        if (!String.valueOf(got).equals(String.valueOf(want))) {
            wrong++;
            System.out.println(what + " answered " + got + ", due is " + want);
        }
    }

    Script then(String rows) {
        for (String row : rows.split(";")) {
            if (!row.isBlank()) {
                playRow(row.strip());
            }
        }
        return this;
    }

    /** Appends a text that has signs which a row can't have. */
    Script write(String text) {
        for (char sign : text.toCharArray()) {
            ask("append(" + (int) sign + ")");
        }
        return this;
    }

    /** The answer of a call, with nothing compared. */
    String ask(String call) {
        int open = call.indexOf('(');
        String inside = call.substring(open + 1, call.length() - 1).strip();
        return answer(call.substring(0, open),
                inside.isEmpty() ? new String[0] : inside.split(", *"));
    }

    private void use() {
        used++;
        if (used == PROMISED_CALLS + 1) {
            due(title + ": calls on one object", used, "at most " + PROMISED_CALLS);
        }
    }

    private void playRow(String row) {
        if (row.startsWith("text(")) {
            write(row.substring(5, row.length() - 1));
            return;
        }
        int equals = row.lastIndexOf(" = ");
        String call = row.substring(0, equals);
        String want = row.substring(equals + 3);
        String name = call.substring(0, call.indexOf('('));
        String before = ask("digest()");
        String got = ask(call);
        due(title + ": " + call, got, want);
        if (got.startsWith("throws ") || !CHANGERS.contains(" " + name + " ")) {
            due(title + ": digest after " + call, ask("digest()"), before);
        }
    }

    private String answer(String name, String[] arguments) {
        use();
        try {
            Method method = find(name);
            Object[] values = new Object[arguments.length];
            for (int i = 0; i < values.length; i++) {
                values[i] = method.getParameterTypes()[i] == boolean.class
                        ? (Object) Boolean.valueOf(arguments[i])
                        : (Object) Integer.valueOf(arguments[i]);
            }
            Object result = method.invoke(object, values);
            return method.getReturnType() == void.class ? "done" : String.valueOf(result);
        } catch (InvocationTargetException e) {
            return "throws " + e.getCause().getClass().getSimpleName();
        } catch (IllegalAccessException e) {
            throw new AssertionError(e);
        }
    }

    private Method find(String name) {
        for (Method method : object.getClass().getDeclaredMethods()) {
            if (method.getName().equals(name)) {
                return method;
            }
        }
        throw new AssertionError("no method " + name);
    }
}
