/** Calls that make the graphs which several tests use, with the answers that are due. */
final class Graphs {
    static final String IAE = " = throws IllegalArgumentException; ";
    static final String ISE = " = throws IllegalStateException; ";
    static final String IOOBE = " = throws IndexOutOfBoundsException; ";

    static final String ONE_EDGE = "addEdge(0, 1) = 0; ";
    // Links, in the order of the successors: a: ab 0, start of cb 2; b: bc 0, bd 1; c: end of cb 0.
    // Paths: 0 abc and end of cb; 1 abd; 2 start of cb, bc, end of cb; 3 start of cb, bd.
    static final String LOOP = "text(d:ab,bc,cb,bd); load() = 4; ";
    // Paths: 0 abc; 1 ab and end of bb; 2 start of bb, bc; 3 start of bb, end of bb.
    static final String SELF = "text(c:ab,bb,bc); load() = 3; ";
    static final String CHAIN = "text(l:ab,bc,cd,de,ef,fg,gh,hi,ij,jk,kl); load() = 11; ";
    static final String UNFIT = "setNodes(3) = done; addEdge(0, 1) = 0; ";

    static final String PATHS_199 = "text(h:ab,bc,cd,de,ef,fg,gh,gc,eb,cb,gf,dg,ce,dh,gb,bd,ge,df);"
            + " load() = 18; analyse() = 199; ";
    static final String PATHS_200 = "text(g:ab,bc,cd,de,ef,fg,fb,fe,ff,bd,fd,eb,db,dc,df,cb,ed); "
            + "load() = 17; analyse() = 200; ";
    static final String PATHS_201 = "text(h:ab,bc,cd,de,ef,fg,gh,fb,gb,gf,fc,cc,gd,df,cf,bd,be,fe);"
            + " load() = 18; analyse() = 201; ";

    /** The longest text without a syntax error but for its end: 58 characters are a graph. */
    static final String NINETEEN_EDGES = "l:ab,ac,ad,ae,af,ag,ah,ai,aj,ak,al,bc,bd,be,bf,bg,bh,bi,"
            + "bj";

    private Graphs() { }

    /** A graph of 6 nodes whose edges go from each node to each, up to a number of edges. */
    static String dense(int edges) {
        StringBuilder calls = new StringBuilder("setNodes(6) = done; ");
        int edge = 0;
        for (int from = 0; from < 5; from++) {
            for (int to = 1; to < 6 && edge < edges; to++) {
                calls.append("addEdge(" + from + ", " + to + ") = " + edge + "; ");
                edge++;
            }
        }
        return calls.toString();
    }

    /** 12 nodes, where a has the edges to b to l, and each of b to k has the one to l. */
    static String fan() {
        StringBuilder calls = new StringBuilder("setNodes(12) = done; ");
        for (int to = 1; to < 12; to++) {
            calls.append("addEdge(0, " + to + ") = " + (to - 1) + "; ");
        }
        for (int from = 1; from < 11; from++) {
            calls.append("addEdge(" + from + ", 11) = " + (10 + from) + "; ");
        }
        return calls.toString();
    }

    /** As fan, but b, c and d have edges to themselves too: 24 edges, yet few paths. */
    static String fullFan() {
        return fan() + "addEdge(1, 1) = 21; addEdge(2, 2) = 22; addEdge(3, 3) = 23; ";
    }

    /** 12 nodes and 24 edges with as many paths as a search by trial has found. */
    static String manyPaths() {
        int[] ends = {6, 7, 3, 4, 10, 3, 0, 1, 7, 2, 5, 6, 5, 7, 1, 2, 6, 1, 10, 9, 7, 1, 4, 6,
            4, 5, 7, 11, 7, 10, 8, 4, 4, 1, 8, 5, 3, 8, 1, 10, 9, 8, 2, 10, 9, 3, 2, 9};
        StringBuilder calls = new StringBuilder("setNodes(12) = done; ");
        for (int edge = 0; edge < 24; edge++) {
            calls.append("addEdge(" + ends[2 * edge] + ", " + ends[2 * edge + 1] + ") = " + edge
                    + "; ");
        }
        return calls.append("analyse() = 1335; ").toString();
    }

    /** Appends a character some times, each with the length that is due. */
    static String fill(char sign, int before, int times) {
        StringBuilder calls = new StringBuilder();
        for (int length = before + 1; length <= before + times; length++) {
            calls.append("append(" + (int) sign + ") = " + length + "; ");
        }
        return calls.toString();
    }
}
