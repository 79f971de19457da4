/** Graphs and small helpers that several tests use. */
final class Graphs {
    private Graphs() {
    }

    /** A new object with n vertices and the edges of a text such as "0-1;1~2;". */
    static IharaZeta read(int n, String text) {
        IharaZeta x = new IharaZeta();
        x.configure(n);
        write(x, text);
        x.loadGraph();
        return x;
    }

    /** The same, but no graph is saved: eight others push the saved ones out and are undone. */
    static IharaZeta readUnsaved(int n, String text) {
        IharaZeta x = read(n, text);
        for (int round = 0; round < 8; round++) {
            x.configure(1);
        }
        for (int round = 0; round < 8; round++) {
            x.undo();
        }
        return x;
    }

    static void write(IharaZeta x, String text) {
        for (int i = 0; i < text.length(); i++) {
            x.appendCharacter(text.charAt(i));
        }
    }

    static IharaZeta triangle() {
        return read(3, "0-1;1-2;2-0;");
    }

    /** The complete graph with 4 vertices. */
    static IharaZeta complete() {
        return read(4, "0-1;0-2;0-3;1-2;1-3;2-3;");
    }

    /** The graph with the most walks: nine parallel edges. */
    static IharaZeta bundle() {
        return read(2, "0-1;0-1;0-1;0-1;0-1;0-1;0-1;0-1;0-1;");
    }

    /** All that can be asked of the graph, without a change of it. */
    static String portrait(IharaZeta x) {
        StringBuilder all = new StringBuilder();
        all.append(x.vertexCount()).append(' ').append(x.edgeCount());
        for (int d = 0; d < 18; d++) {
            all.append(' ').append(x.headOf(d));
        }
        for (int v = 0; v < 6; v++) {
            all.append(' ').append(x.degree(v));
        }
        for (int m = 1; m <= 18; m++) {
            all.append(' ').append(x.signedWalks(m)).append(' ').append(x.walks(m));
        }
        for (int i = 0; i < 4; i++) {
            all.append(' ').append(x.primeSign(2, i)).append(' ').append(x.primeSign(3, i));
        }
        return all.append(' ').append(x.isBalanced()).toString();
    }
}
