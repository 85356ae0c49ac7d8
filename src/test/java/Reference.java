import java.util.ArrayDeque;
import java.util.ArrayList;
import java.util.Comparator;
import java.util.Deque;
import java.util.HashSet;
import java.util.List;
import java.util.Set;
import java.util.regex.Pattern;

/**
 * The document once more, written the long way: it lists every path, and follows the words without
 * a thought for speed. Its methods have the names and answers of PathProfiler's.
 */
public final class Reference {
    enum Kind { FORWARD, END, START }

    record Link(Kind kind, int edge, int from, int to) { }

    private static final Pattern SHAPE =
            Pattern.compile("([b-l](:(([a-k][b-l],)*([a-k][b-l]?)?))?)?");

    private int n = 2;
    private final List<int[]> edges = new ArrayList<>();
    private String buffer = "";

    private boolean analysed;
    private final Set<Integer> back = new HashSet<>();
    private final List<Link> links = new ArrayList<>();
    private final List<List<Link>> paths = new ArrayList<>();
    private final Set<Link> tree = new HashSet<>();
    private Integer[] potential;

    private int[] counts;
    private boolean walking;
    private int node;
    private final List<Link> taken = new ArrayList<>();

    public Reference() { }

    // ---- graphs

    public void setNodes(int count) {
        if (count < 2 || count > 12) {
            throw new IllegalArgumentException();
        }
        n = count;
        edges.clear();
        discard();
    }

    public int addEdge(int from, int to) {
        boolean bad = from < 0 || from >= n - 1 || to < 1 || to >= n;
        for (int[] edge : edges) {
            bad |= edge[0] == from && edge[1] == to;
        }
        if (bad) {
            throw new IllegalArgumentException();
        }
        if (edges.size() == 24) {
            throw new IllegalStateException();
        }
        edges.add(new int[] {from, to, 1});
        discard();
        return edges.size() - 1;
    }

    public int setWeight(int edge, int weight) {
        needEdge(edge);
        if (weight < 0 || weight > 99) {
            throw new IllegalArgumentException();
        }
        int old = edges.get(edge)[2];
        edges.get(edge)[2] = weight;
        discard();
        return old;
    }

    public int edgeCount() {
        return edges.size();
    }

    // ---- input

    public int append(int code) {
        if (code < 32 || code > 126) {
            throw new IllegalArgumentException();
        }
        if (buffer.length() == 60) {
            throw new IllegalStateException();
        }
        buffer += (char) code;
        return buffer.length();
    }

    public int clearInput() {
        int length = buffer.length();
        buffer = "";
        return length;
    }

    private static List<String> edgesOf(String text) {
        List<String> found = new ArrayList<>();
        if (text.length() > 2) {
            for (String edge : text.substring(2).split(",")) {
                found.add(edge);
            }
        }
        return found;
    }

    private static boolean isAllowed(String text) {
        if (!SHAPE.matcher(text).matches()) {
            return false;
        }
        Set<String> seen = new HashSet<>();
        for (String edge : edgesOf(text)) {
            if (edge.charAt(0) >= text.charAt(0)) {
                return false;
            }
            if (edge.length() == 2 && (edge.charAt(1) > text.charAt(0) || !seen.add(edge))) {
                return false;
            }
        }
        return true;
    }

    public int firstError() {
        for (int i = 0; i < buffer.length(); i++) {
            if (!isAllowed(buffer.substring(0, i + 1))) {
                return i;
            }
        }
        return buffer.length();
    }

    public int load() {
        List<String> found = edgesOf(buffer);
        if (firstError() != buffer.length() || found.isEmpty() || buffer.endsWith(",")
                || found.get(found.size() - 1).length() != 2) {
            throw new IllegalStateException();
        }
        n = buffer.charAt(0) - 'a' + 1;
        edges.clear();
        for (String edge : found) {
            edges.add(new int[] {edge.charAt(0) - 'a', edge.charAt(1) - 'a', 1});
        }
        buffer = "";
        discard();
        return edges.size();
    }

    // ---- analysis

    private void discard() {
        analysed = false;
        walking = false;
        counts = null;
    }

    private boolean[][] reachability() {
        boolean[][] reach = new boolean[n][n];
        for (int i = 0; i < n; i++) {
            reach[i][i] = true;
        }
        for (int[] edge : edges) {
            reach[edge[0]][edge[1]] = true;
        }
        for (int k = 0; k < n; k++) {
            for (int i = 0; i < n; i++) {
                for (int j = 0; j < n; j++) {
                    reach[i][j] |= reach[i][k] && reach[k][j];
                }
            }
        }
        return reach;
    }

    private void search(int at, Deque<Integer> path, Set<Integer> seen) {
        seen.add(at);
        path.push(at);
        for (int e = 0; e < edges.size(); e++) {
            if (edges.get(e)[0] == at) {
                int to = edges.get(e)[1];
                if (path.contains(to)) {
                    back.add(e);
                } else if (!seen.contains(to)) {
                    search(to, path, seen);
                }
            }
        }
        path.pop();
    }

    private void addLinks(Kind kind) {
        for (int e = 0; e < edges.size(); e++) {
            int from = edges.get(e)[0];
            int to = edges.get(e)[1];
            if (back.contains(e) != (kind == Kind.FORWARD)) {
                links.add(new Link(kind, e, kind == Kind.START ? 0 : from,
                        kind == Kind.END ? n - 1 : to));
            }
        }
    }

    private void list(int at, List<Link> before) {
        if (at == n - 1) {
            paths.add(new ArrayList<>(before));
            return;
        }
        for (Link link : links) {
            if (link.from() == at) {
                before.add(link);
                list(link.to(), before);
                before.remove(before.size() - 1);
            }
        }
    }

    private int number(int at) {
        if (at == n - 1) {
            return 1;
        }
        int sum = 0;
        for (Link link : links) {
            sum += link.from() == at ? number(link.to()) : 0;
        }
        return sum;
    }

    private boolean connected(int x, int y) {
        Set<Integer> group = new HashSet<>();
        group.add(x);
        for (int round = 0; round < n; round++) {
            if (group.contains(0) || group.contains(n - 1)) {
                group.add(0);
                group.add(n - 1);
            }
            for (Link link : tree) {
                if (group.contains(link.from()) || group.contains(link.to())) {
                    group.add(link.from());
                    group.add(link.to());
                }
            }
        }
        return group.contains(y);
    }

    private int weight(Link link) {
        return edges.get(link.edge())[2];
    }

    private void grow() {
        List<Link> order = new ArrayList<>(links);
        order.sort(Comparator.comparing((Link link) -> -weight(link))
                .thenComparing(Link::kind).thenComparing(Link::edge));
        for (Link link : order) {
            if (!connected(link.from(), link.to())) {
                tree.add(link);
            }
        }
        potential = new Integer[n];
        potential[0] = 0;
        potential[n - 1] = 0;
        for (int round = 0; round < n; round++) {
            for (Link link : tree) {
                Integer x = potential[link.from()];
                Integer y = potential[link.to()];
                if (x != null && y == null) {
                    potential[link.to()] = x + valueOf(link);
                } else if (x == null && y != null) {
                    potential[link.from()] = y - valueOf(link);
                }
            }
        }
    }

    public int analyse() {
        discard();
        back.clear();
        links.clear();
        paths.clear();
        tree.clear();
        taken.clear();
        boolean[][] reach = reachability();
        for (int i = 0; i < n; i++) {
            if (!reach[0][i] || !reach[i][n - 1]) {
                return 0;
            }
        }
        search(0, new ArrayDeque<>(), new HashSet<>());
        addLinks(Kind.FORWARD);
        addLinks(Kind.END);
        addLinks(Kind.START);
        list(0, new ArrayList<>());
        grow();
        analysed = true;
        counts = new int[paths.size()];
        return paths.size();
    }

    private int valueOf(Link wanted) {
        int sum = 0;
        for (Link link : links) {
            if (link.equals(wanted)) {
                return sum;
            }
            sum += link.from() == wanted.from() ? number(link.to()) : 0;
        }
        throw new AssertionError();
    }

    private int incrementOf(Link link) {
        return valueOf(link) + potential[link.from()] - potential[link.to()];
    }

    private Link link(int edge, boolean end) {
        for (Link link : links) {
            if (link.edge() == edge && (link.kind() == Kind.FORWARD
                    || link.kind() == (end ? Kind.END : Kind.START))) {
                return link;
            }
        }
        throw new AssertionError();
    }

    private void needAnalysis() {
        if (!analysed) {
            throw new IllegalStateException();
        }
    }

    private void needCounts() {
        if (!analysed || paths.size() > 200) {
            throw new IllegalStateException();
        }
    }

    private void needEdge(int edge) {
        if (edge < 0 || edge >= edges.size()) {
            throw new IndexOutOfBoundsException();
        }
    }

    private void needPath(int path) {
        if (path < 0 || path >= paths.size()) {
            throw new IndexOutOfBoundsException();
        }
    }

    public int pathsFrom(int at) {
        needAnalysis();
        if (at < 0 || at >= n) {
            throw new IndexOutOfBoundsException();
        }
        return number(at);
    }

    public boolean isBack(int edge) {
        needAnalysis();
        needEdge(edge);
        return back.contains(edge);
    }

    public int value(int edge, boolean end) {
        needAnalysis();
        needEdge(edge);
        return valueOf(link(edge, end));
    }

    public int increment(int edge, boolean end) {
        needAnalysis();
        needEdge(edge);
        return incrementOf(link(edge, end));
    }

    public int chords(boolean weights) {
        needAnalysis();
        int sum = 0;
        for (Link link : links) {
            if (!tree.contains(link)) {
                sum += weights ? weight(link) : 1;
            }
        }
        return sum;
    }

    // ---- paths

    private List<Integer> nodesOf(List<Link> path) {
        List<Integer> nodes = new ArrayList<>();
        if (path.get(0).kind() != Kind.START) {
            nodes.add(0);
        }
        for (Link link : path) {
            if (link.kind() != Kind.END) {
                nodes.add(link.to());
            }
        }
        return nodes;
    }

    public int pathLength(int path) {
        needAnalysis();
        needPath(path);
        return nodesOf(paths.get(path)).size();
    }

    public int pathNode(int path, int index) {
        needAnalysis();
        needPath(path);
        List<Integer> nodes = nodesOf(paths.get(path));
        if (index < 0 || index >= nodes.size()) {
            throw new IndexOutOfBoundsException();
        }
        return nodes.get(index);
    }

    public int pathEdge(int path, boolean end) {
        needAnalysis();
        needPath(path);
        List<Link> list = paths.get(path);
        Link link = list.get(end ? list.size() - 1 : 0);
        return link.kind() == (end ? Kind.END : Kind.START) ? link.edge() : -1;
    }

    public int findPath() {
        needAnalysis();
        for (int path = 0; path < paths.size(); path++) {
            if (lettersOf(path).equals(buffer)) {
                return path;
            }
        }
        return -1;
    }

    String lettersOf(int path) {
        StringBuilder letters = new StringBuilder();
        for (int visited : nodesOf(paths.get(path))) {
            letters.append((char) ('a' + visited));
        }
        return letters.toString();
    }

    // ---- walks

    public void start() {
        needCounts();
        walking = true;
        node = 0;
        taken.clear();
    }

    public int step(int index) {
        if (!walking || node == n - 1) {
            throw new IllegalStateException();
        }
        List<Integer> here = new ArrayList<>();
        for (int e = 0; e < edges.size(); e++) {
            if (edges.get(e)[0] == node) {
                here.add(e);
            }
        }
        if (index < 0 || index >= here.size()) {
            throw new IndexOutOfBoundsException();
        }
        int edge = here.get(index);
        taken.add(link(edge, true));
        node = edges.get(edge)[1];
        if (back.contains(edge)) {
            counts[paths.indexOf(taken)]++;
            taken.clear();
            taken.add(link(edge, false));
        } else if (node == n - 1) {
            counts[paths.indexOf(taken)]++;
        }
        return node;
    }

    public int current() {
        return walking ? node : -1;
    }

    public int register() {
        if (!walking) {
            return 0;
        }
        if (node == n - 1) {
            return paths.indexOf(taken);
        }
        int sum = 0;
        for (Link link : taken) {
            sum += incrementOf(link);
        }
        return sum;
    }

    // ---- counts

    public int count(int path) {
        needCounts();
        needPath(path);
        return counts[path];
    }

    public double share(int path) {
        needCounts();
        needPath(path);
        int sum = 0;
        for (int count : counts) {
            sum += count;
        }
        return sum == 0 ? 0.0 : (double) counts[path] / sum;
    }

    public int hottest() {
        int best = -1;
        for (int path = 0; analysed && path < counts.length; path++) {
            if (counts[path] > (best < 0 ? 0 : counts[best])) {
                best = path;
            }
        }
        return best;
    }

    public int edgeFrequency(int edge) {
        needCounts();
        needEdge(edge);
        int sum = 0;
        for (int path = 0; path < paths.size(); path++) {
            sum += paths.get(path).contains(link(edge, true)) ? counts[path] : 0;
        }
        return sum;
    }

    public long digest() {
        List<Integer> values = new ArrayList<>();
        values.add(n);
        values.add(edges.size());
        for (int[] edge : edges) {
            for (int part : edge) {
                values.add(part);
            }
        }
        values.add(analysed ? 1 : 0);
        if (analysed) {
            for (int i = 0; i < n; i++) {
                values.add(pathsFrom(i));
            }
            for (int e = 0; e < edges.size(); e++) {
                values.add(isBack(e) ? 1 : 0);
                values.add(value(e, false));
                values.add(increment(e, false));
                values.add(value(e, true));
                values.add(increment(e, true));
            }
            values.add(chords(false));
            values.add(chords(true));
            for (int path = 0; paths.size() <= 200 && path < paths.size(); path++) {
                values.add(count(path));
            }
        }
        values.add(current());
        values.add(register());
        values.add(hottest());
        values.add(buffer.length());
        for (char sign : buffer.toCharArray()) {
            values.add((int) sign);
        }
        long hash = 1831;
        for (int x : values) {
            hash = 31 * hash + x;
        }
        return hash;
    }
}
