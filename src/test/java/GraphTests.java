/** Promises 1 to 9: the graph, the text, and undo. */
final class GraphTests {
    private static final int MIN = Integer.MIN_VALUE;
    private static final int MAX = Integer.MAX_VALUE;

    private GraphTests() {
    }

    static void run(Checks c) {
        newObject(c);
        configure(c);
        addEdge(c);
        removeEdge(c);
        flipSign(c);
        appendCharacter(c);
        clearText(c);
        loadGraph(c);
        errorPositions(c);
        undo(c);
        errorsChangeNothing(c);
        firstErrorCounts(c);
    }

    private static void newObject(Checks c) {
        c.topic("promise 1, new object");
        IharaZeta x = new IharaZeta();
        c.due("vertexCount()", x.vertexCount(), 4);
        c.due("edgeCount()", x.edgeCount(), 0);
        c.due("components()", x.components(), 4);
        c.due("undo()", x.undo(), -2);
        c.due("clearText()", x.clearText(), 0);
        IharaZeta y = new IharaZeta();
        y.addEdge(0, 1, 1);
        c.due("edgeCount() of another object", x.edgeCount(), 0);
        c.due("edgeCount() of a third object", new IharaZeta().edgeCount(), 0);
    }

    private static void configure(Checks c) {
        c.topic("promise 2, configure");
        IharaZeta x = new IharaZeta();
        x.addEdge(0, 1, 1);
        x.appendCharacter(48);
        c.due("configure(0)", x.configure(0), -1);
        c.due("configure(7)", x.configure(7), -1);
        c.due("configure(MIN)", x.configure(MIN), -1);
        c.due("configure(MAX)", x.configure(MAX), -1);
        c.due("vertexCount()", x.vertexCount(), 4);
        c.due("edgeCount()", x.edgeCount(), 1);
        c.due("configure(6)", x.configure(6), 4);
        c.due("edgeCount()", x.edgeCount(), 0);
        c.due("vertexCount()", x.vertexCount(), 6);
        c.due("configure(1)", x.configure(1), 6);
        c.due("configure(1)", x.configure(1), 1);
        c.due("clearText(): the text stays", x.clearText(), 1);
        c.due("undo()", x.undo(), 3);
    }

    private static void addEdge(Checks c) {
        c.topic("promise 3, addEdge");
        IharaZeta x = new IharaZeta();
        c.due("addEdge(0,3,-1)", x.addEdge(0, 3, -1), 0);
        c.due("addEdge(3,0,1)", x.addEdge(3, 0, 1), 1);
        c.due("addEdge(4,0,1)", x.addEdge(4, 0, 1), -1);
        c.due("addEdge(0,4,1)", x.addEdge(0, 4, 1), -1);
        c.due("addEdge(-1,0,1)", x.addEdge(-1, 0, 1), -1);
        c.due("addEdge(0,-1,1)", x.addEdge(0, -1, 1), -1);
        c.due("addEdge(MAX,MIN,1)", x.addEdge(MAX, MIN, 1), -1);
        c.due("addEdge(2,2,1)", x.addEdge(2, 2, 1), -1);
        c.due("addEdge(0,1,0)", x.addEdge(0, 1, 0), -1);
        c.due("addEdge(0,1,2)", x.addEdge(0, 1, 2), -1);
        c.due("addEdge(0,1,-2)", x.addEdge(0, 1, -2), -1);
        c.due("addEdge(0,1,MIN)", x.addEdge(0, 1, MIN), -1);
        c.due("headOf(0)", x.headOf(0), 3);
        c.due("headOf(2)", x.headOf(2), 0);
        for (int edge = 2; edge < 9; edge++) {
            c.due("addEdge(1,2,1)", x.addEdge(1, 2, 1), edge);
        }
        c.due("the tenth addEdge(1,2,1)", x.addEdge(1, 2, 1), -3);
        c.due("edgeCount()", x.edgeCount(), 9);
    }

    private static void removeEdge(Checks c) {
        c.topic("promise 4, removeEdge");
        IharaZeta x = Graphs.read(5, "0-1;1~2;2-3;3~4;");
        c.due("removeEdge(4)", x.removeEdge(4), -1);
        c.due("removeEdge(-1)", x.removeEdge(-1), -1);
        c.due("removeEdge(MIN)", x.removeEdge(MIN), -1);
        c.due("removeEdge(MAX)", x.removeEdge(MAX), -1);
        c.due("removeEdge(1)", x.removeEdge(1), 3);
        c.due("headOf(0)", x.headOf(0), 1);
        c.due("headOf(2)", x.headOf(2), 3);
        c.due("headOf(3)", x.headOf(3), 2);
        c.due("headOf(4)", x.headOf(4), 4);
        c.due("headOf(6)", x.headOf(6), -1);
        c.due("flipSign(1): was 1", x.flipSign(1), -1);
        c.due("flipSign(2): was -1", x.flipSign(2), 1);
        c.due("removeEdge(2)", x.removeEdge(2), 2);
        c.due("removeEdge(2)", x.removeEdge(2), -1);
        c.due("removeEdge(0)", x.removeEdge(0), 1);
        c.due("headOf(0)", x.headOf(0), 3);
        c.due("removeEdge(0)", x.removeEdge(0), 0);
        c.due("removeEdge(0)", x.removeEdge(0), -1);
        c.due("undo()", x.undo(), 7);
        c.due("edgeCount()", x.edgeCount(), 1);
        c.due("undo()", x.undo(), 6);
        c.due("edgeCount()", x.edgeCount(), 2);
        IharaZeta full = Graphs.bundle();
        c.due("removeEdge(8)", full.removeEdge(8), 8);
        c.due("removeEdge(0)", full.removeEdge(0), 7);
    }

    private static void flipSign(Checks c) {
        c.topic("promise 5, flipSign");
        IharaZeta x = Graphs.read(2, "0-1;0~1;");
        c.due("flipSign(0)", x.flipSign(0), -1);
        c.due("flipSign(1)", x.flipSign(1), 1);
        c.due("flipSign(0)", x.flipSign(0), 1);
        c.due("signedWalks(2)", x.signedWalks(2), 4);
        c.due("flipSign(2)", x.flipSign(2), 0);
        c.due("flipSign(-1)", x.flipSign(-1), 0);
        c.due("flipSign(MAX)", x.flipSign(MAX), 0);
        c.due("flipSign(MIN)", x.flipSign(MIN), 0);
        c.due("undo()", x.undo(), 4);
        c.due("signedWalks(2)", x.signedWalks(2), -4);
    }

    private static void appendCharacter(Checks c) {
        c.topic("promise 6, appendCharacter");
        IharaZeta x = new IharaZeta();
        c.due("appendCharacter(-1)", x.appendCharacter(-1), -1);
        c.due("appendCharacter(256)", x.appendCharacter(256), -1);
        c.due("appendCharacter(MIN)", x.appendCharacter(MIN), -1);
        c.due("appendCharacter(MAX)", x.appendCharacter(MAX), -1);
        c.due("appendCharacter(0)", x.appendCharacter(0), 1);
        c.due("appendCharacter(255)", x.appendCharacter(255), 2);
        for (int length = 3; length <= 60; length++) {
            c.due("appendCharacter(32)", x.appendCharacter(32), length);
        }
        c.due("appendCharacter(32)", x.appendCharacter(32), -3);
        c.due("appendCharacter(-1)", x.appendCharacter(-1), -1);
        c.due("clearText()", x.clearText(), 60);
    }

    private static void clearText(Checks c) {
        c.topic("promise 7, clearText");
        IharaZeta x = new IharaZeta();
        Graphs.write(x, "0-1;");
        c.due("clearText()", x.clearText(), 4);
        c.due("clearText()", x.clearText(), 0);
        c.due("loadGraph()", x.loadGraph(), 0);
        Graphs.write(x, "2");
        c.due("clearText()", x.clearText(), 1);
        c.due("undo()", x.undo(), 0);
    }

    private static void loadGraph(Checks c) {
        c.topic("promise 8, loadGraph");
        IharaZeta x = new IharaZeta();
        x.addEdge(2, 3, 1);
        Graphs.write(x, "  3 ~ 1 ; 0-2 ;");
        c.due("loadGraph()", x.loadGraph(), 2);
        c.due("headOf(0)", x.headOf(0), 1);
        c.due("headOf(1)", x.headOf(1), 3);
        c.due("headOf(2)", x.headOf(2), 2);
        c.due("vertexCount()", x.vertexCount(), 4);
        c.due("clearText()", x.clearText(), 0);
        c.due("flipSign(0)", x.flipSign(0), 1);
        c.due("flipSign(1)", x.flipSign(1), -1);
        c.due("undo()", x.undo(), 3);
        c.due("undo()", x.undo(), 2);
        c.due("undo()", x.undo(), 1);
        c.due("edgeCount()", x.edgeCount(), 1);
        c.due("headOf(0)", x.headOf(0), 3);
        c.due("loadGraph() of an empty text", x.loadGraph(), 0);
        c.due("edgeCount()", x.edgeCount(), 0);
        Graphs.write(x, "   ");
        c.due("loadGraph() of spaces", x.loadGraph(), 0);
        Graphs.write(x, "0-1;0-1;0-1;0-1;0-1;0-1;0-1;0-1;0-1;   ");
        c.due("loadGraph() of nine edges", x.loadGraph(), 9);
    }

    private static void errorPositions(Checks c) {
        c.topic("promise 8, error position");
        position(c, 4, "-", 0);
        position(c, 4, "  4", 2);
        position(c, 4, "/", 0);
        position(c, 4, ":", 0);
        position(c, 4, "0", 1);
        position(c, 4, "0  ", 3);
        position(c, 4, "0-", 2);
        position(c, 4, "0-1", 3);
        position(c, 4, "0-1 ", 4);
        position(c, 4, "01-1;", 1);
        position(c, 4, "0=1;", 1);
        position(c, 4, "0--1;", 2);
        position(c, 4, "0-0;", 2);
        position(c, 4, "0- 4;", 3);
        position(c, 4, "0-1,", 3);
        position(c, 4, "0-12;", 3);
        position(c, 4, "0-1;;", 4);
        position(c, 4, "0-1; 1~1;", 7);
        position(c, 4, "0\t-1;", 1);
        position(c, 4, "\u00ff", 0);
        position(c, 1, "0-1;", 2);
        position(c, 6, "5-6;", 2);
        position(c, 4, "0-1;0-1;0-1;0-1;0-1;0-1;0-1;0-1;0-1; 1", 37);
        position(c, 4, "0-1;0-1;0-1;0-1;0-1;0-1;0-1;0-1;0-1;~", 36);
    }

    private static void position(Checks c, int n, String text, int error) {
        IharaZeta x = new IharaZeta();
        x.configure(n);
        Graphs.write(x, text);
        c.due("loadGraph() of \"" + text + "\"", x.loadGraph(), -10 - error);
        c.due("undo() after \"" + text + "\"", x.undo(), 0);
        c.due("clearText() after \"" + text + "\"", x.clearText(), text.length());
    }

    private static void undo(Checks c) {
        c.topic("promise 9, undo");
        IharaZeta x = new IharaZeta();
        c.due("undo()", x.undo(), -2);
        for (int edge = 0; edge < 9; edge++) {
            x.addEdge(edge % 3, 3, 1);
        }
        for (int left = 7; left >= 0; left--) {
            c.due("undo()", x.undo(), left);
            c.due("edgeCount()", x.edgeCount(), left + 1);
        }
        c.due("undo() after eight", x.undo(), -2);
        c.due("edgeCount()", x.edgeCount(), 1);
        x.configure(6);
        x.addEdge(5, 4, -1);
        x.flipSign(0);
        Graphs.write(x, "0");
        c.due("undo()", x.undo(), 2);
        c.due("flipSign(0)", x.flipSign(0), 1);
        c.due("undo()", x.undo(), 2);
        c.due("undo()", x.undo(), 1);
        c.due("undo()", x.undo(), 0);
        c.due("vertexCount()", x.vertexCount(), 4);
        c.due("headOf(0)", x.headOf(0), 3);
        c.due("headOf(1)", x.headOf(1), 0);
        c.due("clearText(): the text stays", x.clearText(), 1);
    }

    /** After a refused call, graph, text and saved graphs are what they were. */
    private static void errorsChangeNothing(Checks c) {
        c.topic("errors change nothing");
        for (int refused = 0; refused <= 30; refused++) {
            IharaZeta x = Graphs.read(4, "0-1;1~2;2-0;2~3;0~1;");
            Graphs.write(x, "0-1;3~");
            String before = Graphs.portrait(x);
            long answer = refuse(x, refused);
            c.holds("refused call " + refused + " answers a code", answer < 0 || answer == 0);
            c.holds("same graph after refused call " + refused, before.equals(Graphs.portrait(x)));
            Graphs.write(x, "2;");
            c.due("loadGraph() after refused call " + refused, x.loadGraph(), 2);
            c.due("undo() after refused call " + refused, x.undo(), 2);
            c.holds("same graph after undo, refused call " + refused, before.equals(Graphs.portrait(x)));
            c.due("undo() after refused call " + refused, x.undo(), 1);
            c.due("undo() after refused call " + refused, x.undo(), 0);
            c.due("undo() after refused call " + refused, x.undo(), -2);
            c.due("undo() after refused call " + refused, x.undo(), -2);
            c.due("vertexCount() after refused call " + refused, x.vertexCount(), 4);
        }
    }

    private static long refuse(IharaZeta x, int which) {
        switch (which) {
            case 0: return x.configure(0);
            case 1: return x.configure(7);
            case 2: return x.addEdge(0, 0, 1);
            case 3: return x.addEdge(0, 4, 1);
            case 4: return x.addEdge(0, 1, 0);
            case 5: return x.removeEdge(5);
            case 6: return x.removeEdge(-1);
            case 7: return x.flipSign(5);
            case 8: return x.flipSign(-1);
            case 9: return x.appendCharacter(256);
            case 10: return x.appendCharacter(-1);
            case 11: return x.loadGraph();
            case 12: return x.headOf(10);
            case 13: return x.follows(0, 10);
            case 14: return x.degree(4);
            case 15: return x.walks(0);
            case 16: return x.signedWalks(19);
            case 17: return x.coverWalks(0);
            case 18: return x.primes(19);
            case 19: return x.positivePrimes(0);
            case 20: return x.primeEdge(6, 0, 0);
            case 21: return x.primeEdge(2, 99, 0);
            case 22: return x.primeSign(0, 0);
            case 23: return x.edgeCoefficient(19);
            case 24: return x.signedCoefficient(-1);
            case 25: return x.vertexCoefficient(13);
            case 26: return x.bassCoefficient(19);
            case 27: return x.zetaCoefficient(13);
            case 28: return x.edgeValue(3);
            case 29: return x.taylorAtOne(19);
            default: return x.primeSign(5, 1000000);
        }
    }

    private static void firstErrorCounts(Checks c) {
        c.topic("the first error code counts");
        IharaZeta x = Graphs.bundle();
        c.due("addEdge(0,0,1) with nine edges", x.addEdge(0, 0, 1), -1);
        c.due("addEdge(0,2,1) with nine edges", x.addEdge(0, 2, 1), -1);
        c.due("addEdge(0,1,5) with nine edges", x.addEdge(0, 1, 5), -1);
        c.due("addEdge(0,1,1) with nine edges", x.addEdge(0, 1, 1), -3);
        for (int i = 0; i < 60; i++) {
            x.appendCharacter(32);
        }
        c.due("appendCharacter(300) to a full text", x.appendCharacter(300), -1);
        c.due("appendCharacter(48) to a full text", x.appendCharacter(48), -3);
        c.due("primeEdge(3,MAX,3): no prime, no position", x.primeEdge(3, MAX, 3), -1);
        c.due("primeEdge(3,0,0): no prime", x.primeEdge(3, 0, 0), -9);
    }
}
