import java.lang.reflect.InvocationTargetException;
import java.lang.reflect.Method;
import java.lang.reflect.Modifier;
import java.util.ArrayList;
import java.util.Arrays;
import java.util.Collections;
import java.util.HashMap;
import java.util.LinkedHashSet;
import java.util.List;
import java.util.Map;
import java.util.Random;
import java.util.Set;
import java.util.TreeMap;

/**
 * Plays long chosen-by-chance runs on PathProfiler and on Reference, and compares every answer, and
 * the digest after every call. The seeds are fixed, so each time it plays the same runs. It also
 * counts how often each method answered and threw, so that no promise goes untried.
 */
public final class ModelTest {
    private static final int RUNS = 2000;
    // No run begins something new behind so many calls; each is followed by a call of digest, and
    // the longest thing begun has some 80 calls, so an object has at most its promised 512.
    private static final int CALLS = 170;
    private static final int PROMISED_CALLS = 512;
    private static final String[] ASKERS = {"edgeCount", "firstError", "pathsFrom", "isBack",
        "value", "increment", "chords", "pathLength", "pathNode", "pathEdge", "findPath", "current",
        "register", "count", "share", "hottest", "edgeFrequency"};

    private final Random random;
    private final PathProfiler profiler = new PathProfiler();
    private final Reference reference = new Reference();
    private final int run;
    private int call = 0;
    private int nodes = 2;
    private int allPaths = 0;
    private static int wrong = 0;
    private static final Map<String, Integer> outcomes = new TreeMap<>();
    private static final Map<String, Method> ours = methodsOf(PathProfiler.class);
    private static final Map<String, Method> theirs = methodsOf(Reference.class);

    private ModelTest(int run) {
        this.run = run;
        this.random = new Random(run);
    }

    private static Map<String, Method> methodsOf(Class<?> type) {
        Map<String, Method> found = new HashMap<>();
        for (Method method : type.getDeclaredMethods()) {
            if (Modifier.isPublic(method.getModifiers())) {
                found.put(method.getName(), method);
            }
        }
        return found;
    }

    private static String answer(Method method, Object target, Object[] arguments) {
        try {
            return String.valueOf(method.invoke(target, arguments));
        } catch (InvocationTargetException e) {
            return "throws " + e.getCause().getClass().getSimpleName();
        } catch (IllegalAccessException e) {
            throw new AssertionError(e);
        }
    }

    private String both(String name, Object... arguments) {
        call++;
        String want = answer(theirs.get(name), reference, arguments);
        String got = answer(ours.get(name), profiler, arguments);
        String shown = "run " + run + ", call " + call + ": " + name
                + Arrays.toString(arguments);
        compare(shown, got, want);
        compare(shown + ", then digest", String.valueOf(profiler.digest()),
                String.valueOf(reference.digest()));
        outcomes.merge(name + (want.startsWith("throws ") ? " " + want : " answers"), 1,
                Integer::sum);
        return want;
    }

    private static void compare(String shown, String got, String want) {
        if (!got.equals(want)) {
            wrong++;
            if (wrong <= 20) {
                System.out.println(shown + " answered " + got + ", due is " + want);
            }
        }
    }

    private int below(int bound) {
        return random.nextInt(bound);
    }

    /** An index that mostly exists, and now and then just not, or not at all. */
    private int index(int size) {
        int choice = below(12);
        if (choice == 0) {
            return size;
        }
        if (choice == 1) {
            int[] wild = {-1, size + 1, Integer.MIN_VALUE, Integer.MAX_VALUE, 24, 200};
            return wild[below(wild.length)];
        }
        return size == 0 ? 0 : below(size);
    }

    private void write(String text) {
        for (char sign : text.toCharArray()) {
            both("append", (int) sign);
        }
    }

    private void makeGraph() {
        nodes = 2 + below(below(3) == 0 ? 11 : 5);
        if (both("setNodes", nodes).startsWith("throws")) {
            return;
        }
        // A backbone makes most graphs fit to be analysed.
        if (below(6) != 0) {
            for (int node = 1; node < nodes; node++) {
                both("addEdge", below(3) == 0 ? below(node) : node - 1, node);
            }
        }
        for (int extra = below(8) == 0 ? 60 : below(14); extra > 0; extra--) {
            both("addEdge", index(nodes - 1), 1 + index(nodes - 1));
        }
        for (int some = below(4); some > 0; some--) {
            both("setWeight", index(reference.edgeCount()), weight());
        }
    }

    private int weight() {
        int[] edgy = {-1, 0, 1, 2, 98, 99, 100};
        return below(2) == 0 ? edgy[below(edgy.length)] : below(100);
    }

    private void readGraph() {
        both("clearInput");
        int exit = 1 + below(below(3) == 0 ? 11 : 4);
        Set<String> edges = new LinkedHashSet<>();
        for (int node = 1; node <= exit; node++) {
            edges.add(letter(node - 1) + letter(node));
        }
        for (int extra = below(10); extra > 0; extra--) {
            edges.add(letter(below(exit)) + letter(1 + below(exit)));
        }
        List<String> order = new ArrayList<>(edges);
        if (below(2) == 0) {
            Collections.shuffle(order, random);
        }
        StringBuilder text = new StringBuilder(letter(exit) + ":" + String.join(",", order));
        if (below(12) == 0) {
            text.append(',');
        }
        for (int faults = below(4) == 0 ? 1 + below(2) : 0; faults > 0; faults--) {
            String signs = "abcdefghijklmn,:`AZ~ ";
            text.setCharAt(below(text.length()), signs.charAt(below(signs.length())));
        }
        write(text.length() > 60 ? text.substring(0, 60) : text.toString());
        both("firstError");
        if (!both("load").startsWith("throws")) {
            nodes = exit + 1;
        }
    }

    private static String letter(int node) {
        return String.valueOf((char) ('a' + node));
    }

    private void fillBuffer() {
        both("clearInput");
        for (int length = 1; length <= 60; length++) {
            both("append", (int) 'a');
        }
        both("append", new int[] {31, 'a', 127}[below(3)]);
        both("firstError");
        both("findPath");
        both("clearInput");
    }

    private void analyse() {
        allPaths = Integer.parseInt(both("analyse"));
        outcomes.merge(allPaths > 200 ? "more than 200 paths" : "at most 200 paths", 1,
                Integer::sum);
    }

    private void writePath() {
        both("clearInput");
        if (allPaths > 0) {
            String letters = reference.lettersOf(below(allPaths));
            int choice = below(6);
            if (choice == 0) {
                letters = letters.substring(0, below(letters.length() + 1));
            } else if (choice == 1) {
                letters += (char) ('`' + below(nodes + 3));
            } else if (choice == 2) {
                letters = (char) ('`' + below(nodes + 3)) + letters;
            }
            write(letters);
        }
        both("findPath");
    }

    private void walk() {
        both("start");
        for (int steps = below(20); steps > 0; steps--) {
            both("step", below(8) == 0 ? index(3) : below(3));
            if (below(4) == 0) {
                both("register");
            }
        }
    }

    private void ask() {
        int edges = reference.edgeCount();
        String name = ASKERS[below(ASKERS.length)];
        switch (name) {
            case "pathsFrom" -> both(name, index(nodes));
            case "isBack", "edgeFrequency" -> both(name, index(edges));
            case "value", "increment" -> both(name, index(edges), random.nextBoolean());
            case "chords" -> both(name, random.nextBoolean());
            case "pathLength", "count", "share" -> both(name, index(allPaths));
            case "pathNode" -> both(name, index(allPaths), index(nodes));
            case "pathEdge" -> both(name, index(allPaths), random.nextBoolean());
            default -> both(name);
        }
    }

    private void change() {
        switch (below(7)) {
            case 0 -> both("setNodes", new int[] {-5, 0, 1, 13, 14, Integer.MAX_VALUE}[below(6)]);
            case 1 -> both("addEdge", index(nodes), index(nodes));
            case 2 -> both("setWeight", index(reference.edgeCount()), weight());
            case 3 -> both("append", new int[] {31, 32, 126, 127, 'a', -1}[below(6)]);
            case 4 -> both("clearInput");
            case 5 -> both("load");
            default -> analyse();
        }
    }

    private void play() {
        while (call < CALLS) {
            int choice = below(40);
            if (choice == 0) {
                makeGraph();
            } else if (choice == 1) {
                readGraph();
            } else if (choice == 2) {
                change();
            } else if (choice == 3 && below(4) == 0) {
                fillBuffer();
            } else if (choice < 6) {
                writePath();
            } else if (choice < 10) {
                walk();
            } else {
                ask();
            }
            if (below(12) == 0 || choice < 2) {
                analyse();
            }
        }
    }

    /** Each method answers, and throws each exception of its throws clause. */
    private static List<String> outcomesDue() {
        List<String> due = new ArrayList<>();
        for (Method method : ours.values()) {
            if (!method.getName().equals("digest")) {
                due.add(method.getName() + " answers");
            }
            for (Class<?> type : method.getExceptionTypes()) {
                due.add(method.getName() + " throws " + type.getSimpleName());
            }
        }
        return due;
    }

    public static void main(String[] args) {
        for (int run = 1; run <= RUNS; run++) {
            ModelTest test = new ModelTest(run);
            if (run % 2 == 0) {
                test.makeGraph();
            } else {
                test.readGraph();
            }
            test.analyse();
            test.play();
            compare("calls of run " + run, 2 * test.call <= PROMISED_CALLS ? "not too many"
                    : 2 * test.call + " calls", "not too many");
        }
        if (args.length > 0) {
            outcomes.forEach((what, times) -> System.out.println(what + ": " + times));
        }
        for (String outcome : outcomesDue()) {
            compare("how often it was so that " + outcome,
                    outcomes.containsKey(outcome) ? "some" : "none", "some");
        }
        System.out.println(RUNS + " runs, " + wrong + " answers not as due");
        if (wrong != 0) {
            System.exit(1);
        }
    }
}
