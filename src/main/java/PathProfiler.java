/**
 * A path profiler for control flow graphs, by the method of Ball and Larus.
 *
 * <p>All rows are made once, in the constructors, and used again by every call.
 */
public final class PathProfiler {
    /** There is no such number. */
    public static final int NONE = -1;

    private static final int ENTRY = 0;
    private static final int MIN_NODES = 2;
    private static final int MAX_NODES = 12;
    private static final int MAX_EDGES = 24;
    private static final int MAX_WEIGHT = 99;
    private static final int FIRST_WEIGHT = 1;
    private static final int MAX_TEXT = 60;
    private static final int MIN_CODE = 32;
    private static final int MAX_CODE = 126;
    private static final int MAX_COUNTED_PATHS = 200;
    private static final long FIRST_HASH = 1831L;

    // The number of a link is the number of its edge plus the base of its kind. So the links in
    // ascending order are in the order of a node's successors, and in the order in which links of
    // the same weight are considered for the spanning tree.
    private static final int FORWARD = 0;
    private static final int END = MAX_EDGES;
    private static final int START = 2 * MAX_EDGES;
    private static final int MAX_LINKS = 3 * MAX_EDGES;

    private final Graph graph;
    private final Text text;
    private final Reader reader;
    private final Search search;
    private final Links links;
    private final Tree tree;
    private final Paths paths;
    private final Walk walk;
    private boolean analysed;

    public PathProfiler() {
        graph = new Graph();
        text = new Text();
        reader = new Reader();
        search = new Search(graph);
        links = new Links(graph, search);
        tree = new Tree(graph, links);
        paths = new Paths(graph, links);
        walk = new Walk();
        analysed = false;
    }

    // ---- graphs

    public void setNodes(int n) throws IllegalArgumentException {
        if (n < MIN_NODES || n > MAX_NODES) {
            throw new IllegalArgumentException("a graph has 2 to 12 nodes");
        }
        graph.reset(n);
        discardAnalysis();
    }

    public int addEdge(int from, int to) throws IllegalArgumentException, IllegalStateException {
        if (!graph.allows(from, to)) {
            throw new IllegalArgumentException("the graph allows no such edge");
        }
        if (graph.isFull()) {
            throw new IllegalStateException("there are 24 edges");
        }
        discardAnalysis();
        return graph.add(from, to);
    }

    public int setWeight(int edge, int weight)
            throws IndexOutOfBoundsException, IllegalArgumentException {
        requireEdge(edge);
        if (weight < 0 || weight > MAX_WEIGHT) {
            throw new IllegalArgumentException("a weight is 0 to 99");
        }
        int previous = graph.weights[edge];
        graph.weights[edge] = weight;
        discardAnalysis();
        return previous;
    }

    public int edgeCount() {
        return graph.edges;
    }

    // ---- input

    public int append(int code) throws IllegalArgumentException, IllegalStateException {
        if (code < MIN_CODE || code > MAX_CODE) {
            throw new IllegalArgumentException("a character code is 32 to 126");
        }
        if (text.isFull()) {
            throw new IllegalStateException("the buffer has 60 characters");
        }
        text.add(code);
        return text.length;
    }

    public int clearInput() {
        int length = text.length;
        text.length = 0;
        return length;
    }

    public int firstError() {
        return reader.read(text);
    }

    public int load() throws IllegalStateException {
        if (!reader.readsGraph(text)) {
            throw new IllegalStateException("the buffer is not a graph");
        }
        graph.become(reader.draft);
        text.length = 0;
        discardAnalysis();
        return graph.edges;
    }

    // ---- analysis

    public int analyse() {
        discardAnalysis();
        search.run();
        if (!search.allNodesReached() || !search.exitReachedFromAllNodes()) {
            return 0;
        }
        links.build();
        tree.build();
        analysed = true;
        return links.allPaths();
    }

    public int pathsFrom(int node) throws IllegalStateException, IndexOutOfBoundsException {
        requireAnalysis();
        if (!graph.hasNode(node)) {
            throw new IndexOutOfBoundsException("there is no such node");
        }
        return links.pathsOf[node];
    }

    public boolean isBack(int edge) throws IllegalStateException, IndexOutOfBoundsException {
        requireAnalysis();
        requireEdge(edge);
        return search.back[edge];
    }

    public int value(int edge, boolean end)
            throws IllegalStateException, IndexOutOfBoundsException {
        requireAnalysis();
        requireEdge(edge);
        return links.values[links.linkOf(edge, end)];
    }

    public int increment(int edge, boolean end)
            throws IllegalStateException, IndexOutOfBoundsException {
        requireAnalysis();
        requireEdge(edge);
        return tree.increments[links.linkOf(edge, end)];
    }

    public int chords(boolean weights) throws IllegalStateException {
        requireAnalysis();
        return weights ? tree.chordWeight : tree.chordNumber;
    }

    // ---- paths

    public int pathLength(int path) throws IllegalStateException, IndexOutOfBoundsException {
        requireAnalysis();
        requirePath(path);
        paths.trace(path);
        return paths.nodeNumber();
    }

    public int pathNode(int path, int index)
            throws IllegalStateException, IndexOutOfBoundsException {
        requireAnalysis();
        requirePath(path);
        paths.trace(path);
        if (index < 0 || index >= paths.nodeNumber()) {
            throw new IndexOutOfBoundsException("the path has no such node");
        }
        return paths.nodeAt(index);
    }

    public int pathEdge(int path, boolean end)
            throws IllegalStateException, IndexOutOfBoundsException {
        requireAnalysis();
        requirePath(path);
        paths.trace(path);
        return end ? paths.endEdge() : paths.startEdge();
    }

    public int findPath() throws IllegalStateException {
        requireAnalysis();
        return paths.numberOf(text);
    }

    // ---- walks

    public void start() throws IllegalStateException {
        requireCounts();
        walk.begin();
    }

    public int step(int index) throws IllegalStateException, IndexOutOfBoundsException {
        if (walk.node == NONE || walk.node == graph.exit()) {
            throw new IllegalStateException("there is no walk, or it is over");
        }
        int edge = graph.edgeAt(walk.node, index);
        if (edge == NONE) {
            throw new IndexOutOfBoundsException("the node has no such edge");
        }
        follow(edge);
        return walk.node;
    }

    public int current() {
        return walk.node;
    }

    public int register() {
        return walk.sum;
    }

    // ---- counts

    public int count(int path) throws IllegalStateException, IndexOutOfBoundsException {
        requireCounts();
        requirePath(path);
        return walk.counts[path];
    }

    public double share(int path) throws IllegalStateException, IndexOutOfBoundsException {
        requireCounts();
        requirePath(path);
        if (walk.total == 0) {
            return 0.0;
        }
        return (double) walk.counts[path] / (double) walk.total;
    }

    public int hottest() {
        return walk.mostCounted();
    }

    public int edgeFrequency(int edge) throws IllegalStateException, IndexOutOfBoundsException {
        requireCounts();
        requireEdge(edge);
        int link = links.linkOf(edge, true);
        int sum = 0;
        for (int path = 0; path < links.allPaths() && path < MAX_COUNTED_PATHS; path++) {
            if (walk.counts[path] != 0) {
                paths.trace(path);
                sum += paths.contains(link) ? walk.counts[path] : 0;
            }
        }
        return sum;
    }

    public long digest() {
        long hash = mixGraph(FIRST_HASH);
        hash = mix(hash, analysed ? 1 : 0);
        if (analysed) {
            hash = mixAnalysis(hash);
            hash = mixCounts(hash);
        }
        hash = mix(hash, walk.node);
        hash = mix(hash, walk.sum);
        hash = mix(hash, walk.mostCounted());
        return mixText(hash);
    }

    // ---- inside

    private void discardAnalysis() {
        analysed = false;
        walk.forget();
    }

    private boolean isCountable() {
        return analysed && links.allPaths() <= MAX_COUNTED_PATHS;
    }

    private void requireAnalysis() {
        if (!analysed) {
            throw new IllegalStateException("there is no analysis");
        }
    }

    private void requireCounts() {
        if (!isCountable()) {
            throw new IllegalStateException("there is no analysis, or more than 200 paths");
        }
    }

    private void requireEdge(int edge) {
        if (!graph.hasEdge(edge)) {
            throw new IndexOutOfBoundsException("there is no such edge");
        }
    }

    private void requirePath(int path) {
        if (path < 0 || path >= links.allPaths()) {
            throw new IndexOutOfBoundsException("there is no such path");
        }
    }

    private void follow(int edge) {
        int target = graph.targets[edge];
        walk.sum += tree.increments[links.linkOf(edge, true)];
        if (search.back[edge]) {
            walk.countPath();
            walk.sum = tree.increments[links.linkOf(edge, false)];
        } else if (target == graph.exit()) {
            walk.countPath();
        }
        walk.node = target;
    }

    private static long mix(long hash, int x) {
        return 31L * hash + x;
    }

    private long mixGraph(long before) {
        long hash = mix(before, graph.nodes);
        hash = mix(hash, graph.edges);
        for (int edge = 0; edge < graph.edges; edge++) {
            hash = mix(hash, graph.sources[edge]);
            hash = mix(hash, graph.targets[edge]);
            hash = mix(hash, graph.weights[edge]);
        }
        return hash;
    }

    private long mixAnalysis(long before) {
        long hash = before;
        for (int node = 0; node < graph.nodes; node++) {
            hash = mix(hash, links.pathsOf[node]);
        }
        for (int edge = 0; edge < graph.edges; edge++) {
            hash = mix(hash, search.back[edge] ? 1 : 0);
            hash = mixLink(hash, links.linkOf(edge, false));
            hash = mixLink(hash, links.linkOf(edge, true));
        }
        hash = mix(hash, tree.chordNumber);
        return mix(hash, tree.chordWeight);
    }

    private long mixLink(long before, int link) {
        long hash = mix(before, links.values[link]);
        return mix(hash, tree.increments[link]);
    }

    private long mixCounts(long before) {
        long hash = before;
        if (isCountable()) {
            for (int path = 0; path < links.allPaths(); path++) {
                hash = mix(hash, walk.counts[path]);
            }
        }
        return hash;
    }

    private long mixText(long before) {
        long hash = mix(before, text.length);
        for (int at = 0; at < text.length; at++) {
            hash = mix(hash, text.codes[at]);
        }
        return hash;
    }

    /** The nodes and edges, with their weights. */
    private static final class Graph {
        int nodes = MIN_NODES;
        int edges = 0;
        final int[] sources = new int[MAX_EDGES];
        final int[] targets = new int[MAX_EDGES];
        final int[] weights = new int[MAX_EDGES];

        void reset(int n) {
            nodes = n;
            edges = 0;
        }

        int exit() {
            return nodes - 1;
        }

        boolean hasNode(int node) {
            return node >= 0 && node < nodes;
        }

        boolean hasEdge(int edge) {
            return edge >= 0 && edge < edges;
        }

        boolean isFull() {
            return edges >= MAX_EDGES;
        }

        boolean allows(int from, int to) {
            return hasNode(from) && hasNode(to) && from != exit() && to != ENTRY
                    && !joins(from, to);
        }

        private boolean joins(int from, int to) {
            for (int edge = 0; edge < edges; edge++) {
                if (sources[edge] == from && targets[edge] == to) {
                    return true;
                }
            }
            return false;
        }

        /** Adds an edge that the graph allows; the caller has seen that it is not full. */
        int add(int from, int to) {
            int edge = edges;
            sources[edge] = from;
            targets[edge] = to;
            weights[edge] = FIRST_WEIGHT;
            edges = edge + 1;
            return edge;
        }

        /** The first edge of a node that is not before a given edge. */
        int nextOf(int node, int first) {
            for (int edge = first; edge < edges; edge++) {
                if (sources[edge] == node) {
                    return edge;
                }
            }
            return NONE;
        }

        int edgeAt(int node, int index) {
            int place = 0;
            for (int edge = 0; edge < edges; edge++) {
                if (sources[edge] == node) {
                    if (place == index) {
                        return edge;
                    }
                    place++;
                }
            }
            return NONE;
        }

        void become(Graph other) {
            reset(other.nodes);
            for (int edge = 0; edge < other.edges; edge++) {
                add(other.sources[edge], other.targets[edge]);
            }
        }
    }

    /** The input buffer. */
    private static final class Text {
        final int[] codes = new int[MAX_TEXT];
        int length = 0;

        boolean isFull() {
            return length >= MAX_TEXT;
        }

        void add(int code) {
            codes[length] = code;
            length++;
        }

        /** The node that a character stands for; there may be no such node. */
        int nodeAt(int at) {
            return codes[at] - 'a';
        }
    }

    /** Reads a text as a graph, character by character, into a draft. */
    private static final class Reader {
        private static final int SHORTEST_GRAPH = 4;
        final Graph draft = new Graph();
        private int source = ENTRY;

        /** The index of the first syntax error, or the length of the text. */
        int read(Text text) {
            draft.reset(MIN_NODES);
            for (int at = 0; at < text.length; at++) {
                if (!takes(at, text.codes[at])) {
                    return at;
                }
            }
            return text.length;
        }

        boolean readsGraph(Text text) {
            return text.length >= SHORTEST_GRAPH && endsWithTarget(text.length)
                    && read(text) == text.length;
        }

        // The targets are at the places 3, 6, 9 and so on.
        private boolean endsWithTarget(int length) {
            return length % 3 == 1;
        }

        private boolean takes(int at, int code) {
            if (at == 0) {
                return takesExit(code - 'a');
            }
            if (at == 1) {
                return code == ':';
            }
            switch (at % 3) {
                case 0:
                    return takesTarget(code - 'a');
                case 1:
                    return code == ',' && !draft.isFull();
                default:
                    return takesSource(code - 'a');
            }
        }

        private boolean takesExit(int node) {
            if (node < MIN_NODES - 1 || node >= MAX_NODES) {
                return false;
            }
            draft.reset(node + 1);
            return true;
        }

        private boolean takesSource(int node) {
            if (!draft.hasNode(node) || node == draft.exit()) {
                return false;
            }
            source = node;
            return true;
        }

        private boolean takesTarget(int node) {
            if (draft.isFull() || !draft.allows(source, node)) {
                return false;
            }
            draft.add(source, node);
            return true;
        }
    }

    /** The depth-first search from the entry, which finds the back edges. */
    private static final class Search {
        // Each turn follows an edge, each once, or leaves a node, each once.
        private static final int MAX_TURNS = MAX_EDGES + MAX_NODES;
        private final Graph graph;
        final boolean[] back = new boolean[MAX_EDGES];
        final int[] left = new int[MAX_NODES];
        int leftNumber = 0;
        private final int[] path = new int[MAX_NODES];
        private int depth = 0;
        private final int[] nextEdges = new int[MAX_NODES];
        private final boolean[] reached = new boolean[MAX_NODES];
        private final boolean[] onPath = new boolean[MAX_NODES];
        private final boolean[] leadsToExit = new boolean[MAX_NODES];

        Search(Graph graph) {
            this.graph = graph;
        }

        void run() {
            prepare();
            enter(ENTRY);
            for (int turn = 0; turn < MAX_TURNS && depth > 0; turn++) {
                int node = path[depth - 1];
                int edge = graph.nextOf(node, nextEdges[node]);
                if (edge == NONE) {
                    leave(node);
                } else {
                    nextEdges[node] = edge + 1;
                    follow(edge);
                }
            }
        }

        private void prepare() {
            depth = 0;
            leftNumber = 0;
            for (int node = 0; node < MAX_NODES; node++) {
                nextEdges[node] = 0;
                reached[node] = false;
                onPath[node] = false;
            }
            for (int edge = 0; edge < MAX_EDGES; edge++) {
                back[edge] = false;
            }
        }

        private void enter(int node) {
            reached[node] = true;
            onPath[node] = true;
            path[depth] = node;
            depth++;
        }

        private void leave(int node) {
            onPath[node] = false;
            depth--;
            if (leftNumber < MAX_NODES) {
                left[leftNumber] = node;
                leftNumber++;
            }
        }

        private void follow(int edge) {
            int target = graph.targets[edge];
            if (onPath[target]) {
                back[edge] = true;
            } else if (!reached[target] && depth < MAX_NODES) {
                enter(target);
            }
        }

        boolean allNodesReached() {
            return leftNumber == graph.nodes;
        }

        boolean exitReachedFromAllNodes() {
            for (int node = 0; node < graph.nodes; node++) {
                leadsToExit[node] = node == graph.exit();
            }
            // A shortest way to the exit has fewer edges than there are nodes.
            for (int round = 1; round < graph.nodes; round++) {
                spreadLeadsToExit();
            }
            for (int node = 0; node < graph.nodes; node++) {
                if (!leadsToExit[node]) {
                    return false;
                }
            }
            return true;
        }

        private void spreadLeadsToExit() {
            for (int edge = 0; edge < graph.edges; edge++) {
                if (leadsToExit[graph.targets[edge]]) {
                    leadsToExit[graph.sources[edge]] = true;
                }
            }
        }
    }

    /** The links of an analysed graph with their values, and the numbers of paths. */
    private static final class Links {
        private final Graph graph;
        private final Search search;
        // The source of a link that the graph does not have is NONE.
        final int[] sources = new int[MAX_LINKS];
        final int[] targets = new int[MAX_LINKS];
        final int[] values = new int[MAX_LINKS];
        final int[] pathsOf = new int[MAX_NODES];

        Links(Graph graph, Search search) {
            this.graph = graph;
            this.search = search;
        }

        void build() {
            for (int link = 0; link < MAX_LINKS; link++) {
                put(link, NONE, NONE);
            }
            for (int edge = 0; edge < graph.edges; edge++) {
                if (search.back[edge]) {
                    put(END + edge, graph.sources[edge], graph.exit());
                    put(START + edge, ENTRY, graph.targets[edge]);
                } else {
                    put(FORWARD + edge, graph.sources[edge], graph.targets[edge]);
                }
            }
            countPaths();
        }

        private void put(int link, int from, int to) {
            sources[link] = from;
            targets[link] = to;
            values[link] = 0;
        }

        private void countPaths() {
            // An end link may leave a node that the search left before it came to the exit.
            pathsOf[graph.exit()] = 1;
            // The search left the targets of a node's forward edges, and for the entry all other
            // nodes, before the node itself.
            for (int place = 0; place < search.leftNumber; place++) {
                if (search.left[place] != graph.exit()) {
                    countPathsOf(search.left[place]);
                }
            }
        }

        private void countPathsOf(int node) {
            int sum = 0;
            for (int link = 0; link < MAX_LINKS; link++) {
                if (sources[link] == node) {
                    values[link] = sum;
                    sum += pathsOf[targets[link]];
                }
            }
            pathsOf[node] = sum;
        }

        int allPaths() {
            return pathsOf[ENTRY];
        }

        int linkOf(int edge, boolean end) {
            if (!search.back[edge]) {
                return FORWARD + edge;
            }
            return end ? END + edge : START + edge;
        }

        /** The lowest link of a kind between two nodes. */
        int between(int kind, int from, int to) {
            if (!graph.hasNode(from)) {
                return NONE;
            }
            for (int link = kind; link < kind + MAX_EDGES; link++) {
                if (sources[link] == from && targets[link] == to) {
                    return link;
                }
            }
            return NONE;
        }

        /** The link of a node by which the path goes on whose values still sum to rest. */
        int onward(int node, int rest) {
            int found = NONE;
            for (int link = 0; link < MAX_LINKS; link++) {
                if (sources[link] == node && values[link] <= rest) {
                    found = link;
                }
            }
            return found;
        }
    }

    /** The spanning tree, and the increments and chords that it makes. */
    private static final class Tree {
        private final Graph graph;
        private final Links links;
        final int[] increments = new int[MAX_LINKS];
        int chordNumber = 0;
        int chordWeight = 0;
        private final int[] order = new int[MAX_LINKS];
        private int orderLength = 0;
        private final int[] parts = new int[MAX_NODES];
        private final int[] potentials = new int[MAX_NODES];

        Tree(Graph graph, Links links) {
            this.graph = graph;
            this.links = links;
        }

        void build() {
            sortLinks();
            plant();
            for (int place = 0; place < orderLength; place++) {
                consider(order[place]);
            }
            computeIncrements();
        }

        private int weightOf(int link) {
            return graph.weights[link % MAX_EDGES];
        }

        private void sortLinks() {
            orderLength = 0;
            for (int link = 0; link < MAX_LINKS; link++) {
                if (links.sources[link] != NONE) {
                    sortIn(link);
                }
            }
        }

        // Links come in ascending order, so one goes behind all of the same weight.
        private void sortIn(int link) {
            int place = orderLength;
            while (place > 0 && weightOf(order[place - 1]) < weightOf(link)) {
                order[place] = order[place - 1];
                place--;
            }
            order[place] = link;
            orderLength++;
        }

        private void plant() {
            chordNumber = 0;
            chordWeight = 0;
            for (int node = 0; node < graph.nodes; node++) {
                parts[node] = node;
                potentials[node] = 0;
            }
            parts[graph.exit()] = parts[ENTRY];
        }

        private void consider(int link) {
            if (parts[links.sources[link]] == parts[links.targets[link]]) {
                chordNumber++;
                chordWeight += weightOf(link);
            } else {
                join(link);
            }
        }

        // The potentials of a part are right among themselves; only their differences matter, so
        // the part of the target is shifted as a whole, and at the end none need be shifted back.
        private void join(int link) {
            int source = links.sources[link];
            int target = links.targets[link];
            int shift = potentials[source] + links.values[link] - potentials[target];
            int kept = parts[source];
            int joined = parts[target];
            for (int node = 0; node < graph.nodes; node++) {
                if (parts[node] == joined) {
                    parts[node] = kept;
                    potentials[node] += shift;
                }
            }
        }

        private void computeIncrements() {
            for (int place = 0; place < orderLength; place++) {
                int link = order[place];
                increments[link] = links.values[link] + potentials[links.sources[link]]
                        - potentials[links.targets[link]];
            }
        }
    }

    /** Traces a path by its number, and finds the number of a path by its nodes. */
    private static final class Paths {
        private final Graph graph;
        private final Links links;
        // A path visits no node twice, so it has fewer links than there are nodes.
        private final int[] traced = new int[MAX_NODES];
        private int tracedLength = 0;

        Paths(Graph graph, Links links) {
            this.graph = graph;
            this.links = links;
        }

        void trace(int path) {
            int node = ENTRY;
            int rest = path;
            tracedLength = 0;
            while (node != graph.exit() && tracedLength < MAX_NODES) {
                int link = links.onward(node, rest);
                if (link == NONE) {
                    return;
                }
                traced[tracedLength] = link;
                tracedLength++;
                rest -= links.values[link];
                node = links.targets[link];
            }
        }

        boolean contains(int link) {
            for (int place = 0; place < tracedLength; place++) {
                if (traced[place] == link) {
                    return true;
                }
            }
            return false;
        }

        int startEdge() {
            if (tracedLength == 0 || traced[0] < START) {
                return NONE;
            }
            return traced[0] - START;
        }

        int endEdge() {
            if (tracedLength == 0) {
                return NONE;
            }
            int last = traced[tracedLength - 1];
            return last >= END && last < START ? last - END : NONE;
        }

        // A start link does not visit the entry, nor an end link the exit.
        int nodeNumber() {
            int number = tracedLength + 1;
            if (startEdge() != NONE) {
                number--;
            }
            if (endEdge() != NONE) {
                number--;
            }
            return number;
        }

        /** A visited node; the caller has seen that the index is below nodeNumber. */
        int nodeAt(int index) {
            int place = startEdge() == NONE ? index : index + 1;
            return place == 0 ? ENTRY : links.targets[traced[place - 1]];
        }

        // Paths with the same nodes differ in their start links and end links alone, so the lowest
        // of each make the lowest number.
        int numberOf(Text text) {
            if (text.length == 0) {
                return NONE;
            }
            int first = text.nodeAt(0);
            int last = text.nodeAt(text.length - 1);
            int sum = 0;
            if (first != ENTRY) {
                sum = plusValue(sum, links.between(START, ENTRY, first));
            }
            for (int at = 1; at < text.length; at++) {
                int from = text.nodeAt(at - 1);
                sum = plusValue(sum, links.between(FORWARD, from, text.nodeAt(at)));
            }
            if (last != graph.exit()) {
                sum = plusValue(sum, links.between(END, last, graph.exit()));
            }
            return sum;
        }

        private int plusValue(int sum, int link) {
            return sum == NONE || link == NONE ? NONE : sum + links.values[link];
        }
    }

    /** The walk, and what the walks since the analysis have counted. */
    private static final class Walk {
        int node = NONE;
        int sum = 0;
        final int[] counts = new int[MAX_COUNTED_PATHS];
        int total = 0;

        void forget() {
            node = NONE;
            sum = 0;
            total = 0;
            for (int path = 0; path < MAX_COUNTED_PATHS; path++) {
                counts[path] = 0;
            }
        }

        void begin() {
            node = ENTRY;
            sum = 0;
        }

        void countPath() {
            if (sum >= 0 && sum < MAX_COUNTED_PATHS) {
                counts[sum]++;
                total++;
            }
        }

        int mostCounted() {
            int best = NONE;
            int most = 0;
            for (int path = 0; path < MAX_COUNTED_PATHS; path++) {
                if (counts[path] > most) {
                    most = counts[path];
                    best = path;
                }
            }
            return best;
        }
    }
}
