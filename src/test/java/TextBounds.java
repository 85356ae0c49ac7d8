/** The bounds of the paragraph "Input text" and of the promises 6 to 9. */
final class TextBounds {
    private static final String IAE = Graphs.IAE;
    private static final String ISE = Graphs.ISE;
    private static final String IOOBE = Graphs.IOOBE;
    private static final String LONGEST = Graphs.NINETEEN_EDGES + ",b";
    private static final String WEIGHTED = Graphs.ONE_EDGE + "setWeight(0, 70) = 1; analyse() = 1; "
            + "start() = done; step(0) = 1; ";
    private static final String KEPT = "; edgeCount() = 1; count(0) = 1; current() = 1; "
            + "hottest() = 0; setWeight(0, 70) = 70";

    private TextBounds() { }

    static void play() {
        length();
        writtenGraphs();
        charactersAtTheirPlaces();
        endsWithTarget();
        append();
        clearInput();
        firstError();
        load();
        loadThrows();
    }

    private static void length() {
        Sentences.play(0, "The input buffer has at most 60 characters",
                Graphs.fill('a', 0, 59) + "append(97) = 60; append(97)" + ISE + "clearInput() = 60",
                "text(" + Graphs.NINETEEN_EDGES + "); append(44) = 59; append(98) = 60; append(107)"
                + ISE + "firstError() = 60; clearInput() = 60; append(107) = 1");
    }

    private static void writtenGraphs() {
        Sentences.play(0, "A graph is written as the letter of its exit",
                "text(b:ab); load() = 1; addEdge(0, 2)" + IAE + "analyse() = 1; pathsFrom(1) = 1; "
                + "pathsFrom(2)" + IOOBE,
                "text(l:al); load() = 1; addEdge(0, 12)" + IAE + "addEdge(0, 10) = 1; "
                + "addEdge(0, 11)" + IAE,
                "text(c:); firstError() = 2; load()" + ISE,
                "text(c:ac); load() = 1; addEdge(0, 2)" + IAE + "addEdge(0, 1) = 1",
                "text(c:ac,bb); load() = 2; addEdge(1, 1)" + IAE + "addEdge(0, 2)" + IAE,
                "text(l:kb); load() = 1; addEdge(10, 1)" + IAE + "addEdge(1, 10) = 1");
        Sentences.play(0, "For example, \"d:ab,bc,cb,bd\" has 4 nodes and 4 edges",
                Graphs.LOOP + "edgeCount() = 4; addEdge(2, 4)" + IAE + "addEdge(2, 3) = 4; "
                + "addEdge(3, 1)" + IAE,
                Graphs.LOOP + "analyse() = 4; pathsFrom(3) = 1; pathsFrom(4)" + IOOBE);
    }

    /** Tries each character behind a text without an error; the good ones may follow. */
    private static void next(String before, String good) {
        for (char sign = 32; sign <= 126; sign++) {
            boolean isGood = good.indexOf(sign) >= 0;
            int error = before.length() + (isGood ? 1 : 0);
            new Script("0: '" + sign + "' behind " + before).write(before + sign).then(
                    "firstError() = " + error);
        }
    }

    private static String letters(char first, char last) {
        StringBuilder letters = new StringBuilder();
        for (char letter = first; letter <= last; letter++) {
            letters.append(letter);
        }
        return letters.toString();
    }

    private static void charactersAtTheirPlaces() {
        Sentences.quote(0, "The buffer is read from left to right");
        next("", letters('b', 'l'));
        for (char exit = 'b'; exit <= 'l'; exit++) {
            next(exit + "", ":");
            next(exit + ":", letters('a', (char) (exit - 1)));
            next(exit + ":a", letters('b', exit));
            next(exit + ":a" + exit, ",");
            next(exit + ":a" + exit + ",", letters('a', (char) (exit - 1)));
            // The edge from a to the exit would occur a second time.
            next(exit + ":a" + exit + ",a", letters('b', (char) (exit - 1)));
        }
        next("d:ab,bc,cb,bd,b", "b");
        next("d:ab,bc,cb,bd,c", "cd");
        next("c:ab,ac,bb,bc,a", "");
        // No more than 19 edges go into the buffer: the place behind the 24th is never met.
        next(Graphs.NINETEEN_EDGES, ",");
        next(Graphs.NINETEEN_EDGES + ",", letters('a', 'k'));
        Sentences.play(0, "The buffer is read from left to right",
                "text(d:ab,,:az); firstError() = 5", "text(zzzz); firstError() = 0",
                "text(d:ab,ab,ab); firstError() = 6");
    }

    private static void endsWithTarget() {
        Sentences.quote(0, "A buffer without a syntax error is a graph if it ends with a target");
        for (int length = 0; length <= LONGEST.length(); length++) {
            boolean isGraph = length >= 4 && length % 3 == 1;
            new Script("0: the first " + length + " characters of a graph").write(
                    LONGEST.substring(0, length)).then("firstError() = " + length + "; load()"
                    + (isGraph ? " = " + (length - 1) / 3 + "; clearInput() = 0"
                            : ISE + "clearInput() = " + length));
        }
    }

    private static void append() {
        Sentences.play(6, "Appends a character to the input buffer",
                "append(98) = 1; append(58) = 2; append(97) = 3; append(98) = 4; load() = 1",
                Graphs.ONE_EDGE + "analyse() = 1; append(97) = 1; findPath() = -1; append(98) = 2; "
                + "findPath() = 0");
        Sentences.play(6, "Returns the new length of the buffer",
                Graphs.fill('~', 0, 60), "append(32) = 1; clearInput() = 1; append(32) = 1; "
                + "append(31)" + IAE + "append(32) = 2");
        Sentences.play(6, "Throws `IllegalArgumentException` if code is not 32 to 126",
                "append(31)" + IAE + "append(32) = 1; append(33) = 2",
                "append(125) = 1; append(126) = 2; append(127)" + IAE + "clearInput() = 2",
                "append(0)" + IAE + "append(-1)" + IAE + "append(128)" + IAE + "append(256)" + IAE
                + "append(353)" + IAE + "append(65633)" + IAE + "clearInput() = 0",
                "append(-2147483648)" + IAE + "append(2147483647)" + IAE + "clearInput() = 0");
        Sentences.play(6, "Throws `IllegalStateException` if the buffer has 60 characters",
                Graphs.fill('b', 0, 59) + "append(98) = 60; append(98)" + ISE + "append(32)" + ISE
                + "append(126)" + ISE + "firstError() = 1; clearInput() = 60; append(98) = 1");
    }

    private static void clearInput() {
        Sentences.play(7, "Clears the input buffer",
                "text(b:ab); clearInput() = 4; firstError() = 0; load()" + ISE,
                "text(z); clearInput() = 1; text(b:ab); load() = 1",
                Graphs.fill('a', 0, 60) + "clearInput() = 60; append(97) = 1");
        Sentences.play(7, "Returns the length that the buffer had",
                "clearInput() = 0; clearInput() = 0; append(97) = 1; clearInput() = 1; "
                + "clearInput() = 0",
                Graphs.fill('a', 0, 59) + "clearInput() = 59",
                Graphs.fill('a', 0, 60) + "append(97)" + ISE + "clearInput() = 60");
    }

    private static void firstError() {
        Sentences.play(8, "Finds the first syntax error of the buffer, read as a graph",
                "text(d:ab,bc,cb,dd,zz); firstError() = 11; clearInput() = 16; firstError() = 0",
                "text(d:ab); firstError() = 4; append(58) = 5; firstError() = 4; append(44) = 6; "
                + "firstError() = 4");
        Sentences.play(8, "Returns the index of the first character that is a syntax error",
                "firstError() = 0", "text(a); firstError() = 0", "text(b); firstError() = 1",
                "text(b:ab); firstError() = 4", "text(b:aa); firstError() = 3",
                "text(" + LONGEST + "); firstError() = 60",
                "text(" + Graphs.NINETEEN_EDGES + ",l); firstError() = 59",
                "text(" + Graphs.NINETEEN_EDGES + ".b); firstError() = 58",
                Graphs.fill('a', 0, 60) + "firstError() = 0");
    }

    private static void load() {
        Sentences.play(9, "Replaces the graph by the one in the buffer, with all weights 1",
                Graphs.dense(24) + "setWeight(0, 99) = 1; setWeight(1, 0) = 1; text(c:ab,bc); "
                + "load() = 2; edgeCount() = 2; clearInput() = 0; setWeight(0, 5) = 1; "
                + "setWeight(1, 5) = 1; setWeight(2, 5)" + IOOBE,
                "setNodes(12) = done; text(b:ab); load() = 1; addEdge(0, 2)" + IAE
                + "analyse() = 1; pathsFrom(2)" + IOOBE,
                "text(l:al); load() = 1; addEdge(10, 11) = 1; addEdge(11, 10)" + IAE,
                "text(b:ab); load() = 1; load()" + ISE + "firstError() = 0; append(98) = 1");
        Sentences.play(9, "Returns the number of edges",
                "text(b:ab); load() = 1", "text(c:ab,bc); load() = 2",
                "text(" + Graphs.NINETEEN_EDGES + "); load() = 19; edgeCount() = 19");
    }

    private static void loadThrows() {
        Sentences.quote(9, "Throws `IllegalStateException` if the buffer is not a graph");
        for (String text : new String[] {"", "b", "b:", "b:a", "b:ab,", "b:ab,a", "b:ab,ab", "b:bb",
            "b:aa", "b:ac", "a:ab", "m:ab", "b;ab", "B:ab", "b:AB", " b:ab", "b:ab ", "b:abab",
            "b,ab", "c:ab.bc", "c:ab,bc,", "c:ab,bc,bc", LONGEST,
            Graphs.NINETEEN_EDGES + ",", Graphs.NINETEEN_EDGES + ",l"}) {
            new Script("9: no graph: " + text).then(WEIGHTED).write(text).then("load()" + ISE
                    + "clearInput() = " + text.length() + KEPT);
        }
        new Script("9: a graph after all").then(WEIGHTED + "text(b:a); load()" + ISE
                + "append(98) = 4; load() = 1; clearInput() = 0; count(0)" + ISE
                + "current() = -1; setWeight(0, 70) = 1");
    }
}
