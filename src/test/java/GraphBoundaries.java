/** The boundary cases of the section "Graph" and of the promises 1 to 5 and 10 to 17, a test each. */
final class GraphBoundaries {
    private static final int MIN = Integer.MIN_VALUE;
    private static final int MAX = Integer.MAX_VALUE;
    /** Nine edges, all different, whose signs alternate. */
    private static final String NINE = "0-1;0~2;0-3;0~4;0-5;1~2;3-1;1~4;5-1;";
    private static final String NINE_PARALLEL = "0-1;0-1;0-1;0-1;0-1;0-1;0-1;0-1;0-1;";

    private GraphBoundaries() {
    }

    static void run(Checks c) {
        firstState(c);
        smallestAndGreatestVertexCount(c);
        vertexCountOutOfRange(c);
        configureEmptiesTheGraph(c);
        endsOfAnEdge(c);
        signOfAnEdge(c);
        atMostNineEdges(c);
        severalEdgesWithTheSameEnds(c);
        edgesRemovedOneByOne(c);
        greaterNumbersBecomeOneLess(c);
        flippedEdges(c);
        vertexAndEdgeCount(c);
        directedEdges(c);
        inverseDoesNotFollow(c);
        followsOutOfRange(c);
        degrees(c);
        components(c);
        ranks(c);
        balance(c);
    }

    private static void firstState(Checks c) {
        c.topic("promise 1: 4 vertices and no edges, and an empty text");
        IharaZeta x = new IharaZeta();
        c.due("vertexCount()", x.vertexCount(), 4);
        c.due("edgeCount()", x.edgeCount(), 0);
        c.due("degree(3)", x.degree(3), 0);
        c.due("degree(4)", x.degree(4), -1);
        c.due("headOf(0)", x.headOf(0), -1);
        c.due("undo()", x.undo(), -2);
        c.due("clearText()", x.clearText(), 0);
        c.due("appendCharacter(48)", new IharaZeta().appendCharacter(48), 1);
        c.due("loadGraph()", new IharaZeta().loadGraph(), 0);
        c.due("configure(1)", new IharaZeta().configure(1), 4);
    }

    private static void smallestAndGreatestVertexCount(Checks c) {
        c.topic("Graph: 1 to 6 vertices, numbered from 0");
        for (int before = 1; before <= 6; before++) {
            for (int n = 1; n <= 6; n++) {
                IharaZeta x = Graphs.read(before, "");
                c.due("configure(" + n + ") after " + before, x.configure(n), before);
                c.due("vertexCount() after configure(" + n + ")", x.vertexCount(), n);
                c.due("degree(-1) of " + n, x.degree(-1), -1);
                c.due("degree(0) of " + n, x.degree(0), 0);
                c.due("degree(" + (n - 1) + ") of " + n, x.degree(n - 1), 0);
                c.due("degree(" + n + ") of " + n, x.degree(n), -1);
            }
        }
    }

    private static void vertexCountOutOfRange(Checks c) {
        c.topic("promise 2: INVALID_ARGUMENT if vertices is out of range");
        int[] wrong = {0, 7, -1, 8, MIN, MAX, MIN + 4, MAX - 4};
        for (int n : wrong) {
            IharaZeta x = Graphs.read(3, "0-1;");
            c.due("configure(" + n + ")", x.configure(n), -1);
            c.due("vertexCount() after configure(" + n + ")", x.vertexCount(), 3);
            c.due("edgeCount() after configure(" + n + ")", x.edgeCount(), 1);
            c.due("undo() after configure(" + n + ")", x.undo(), 1);
        }
    }

    private static void configureEmptiesTheGraph(Checks c) {
        c.topic("promise 2: a new graph without edges");
        for (int n = 1; n <= 6; n++) {
            IharaZeta x = Graphs.read(6, NINE);
            c.due("configure(" + n + ") of nine edges", x.configure(n), 6);
            c.due("edgeCount()", x.edgeCount(), 0);
            c.due("headOf(0)", x.headOf(0), -1);
            c.due("components()", x.components(), n);
            c.due("removeEdge(0)", x.removeEdge(0), -1);
        }
        IharaZeta same = Graphs.read(6, NINE);
        c.due("configure(6), the number that was there", same.configure(6), 6);
        c.due("edgeCount() after the same number", same.edgeCount(), 0);
    }

    private static void endsOfAnEdge(Checks c) {
        c.topic("promise 3: INVALID_ARGUMENT if there is no such vertex, or a equals b");
        int[] ends = {MIN, -2, -1, 0, 1, 2, 3, 4, 5, 6, 7, MAX};
        for (int n = 1; n <= 6; n++) {
            for (int a : ends) {
                for (int b : ends) {
                    IharaZeta x = Graphs.read(n, "");
                    boolean fits = a >= 0 && a < n && b >= 0 && b < n && a != b;
                    String call = "addEdge(" + a + "," + b + ",1) with " + n + " vertices";
                    c.due(call, x.addEdge(a, b, 1), fits ? 0 : -1);
                    c.due("edgeCount() after " + call, x.edgeCount(), fits ? 1 : 0);
                    c.due("headOf(0) after " + call, x.headOf(0), fits ? b : -1);
                    c.due("headOf(1) after " + call, x.headOf(1), fits ? a : -1);
                }
            }
        }
    }

    private static void signOfAnEdge(Checks c) {
        c.topic("promise 3: INVALID_ARGUMENT if sign is neither 1 nor -1");
        int[] signs = {MIN, -3, -2, -1, 0, 1, 2, 3, 255, 257, MAX};
        for (int sign : signs) {
            boolean fits = sign == 1 || sign == -1;
            IharaZeta x = new IharaZeta();
            c.due("addEdge(0,3," + sign + ")", x.addEdge(0, 3, sign), fits ? 0 : -1);
            c.due("edgeCount() after the sign " + sign, x.edgeCount(), fits ? 1 : 0);
            c.due("flipSign(0) after the sign " + sign, x.flipSign(0), fits ? -sign : 0);
        }
    }

    private static void atMostNineEdges(Checks c) {
        c.topic("Graph: at most 9 edges, numbered in the order in which they were added");
        IharaZeta x = Graphs.read(6, "");
        for (int edge = 0; edge < 9; edge++) {
            c.due("addEdge number " + edge, x.addEdge(edge % 5, edge % 5 + 1, 1), edge);
            c.due("edgeCount()", x.edgeCount(), edge + 1);
        }
        c.due("the tenth addEdge", x.addEdge(0, 1, 1), -3);
        c.due("the eleventh addEdge", x.addEdge(4, 5, -1), -3);
        c.due("edgeCount() after the tenth", x.edgeCount(), 9);
        for (int edge = 0; edge < 9; edge++) {
            c.due("headOf(" + 2 * edge + ")", x.headOf(2 * edge), edge % 5 + 1);
        }
        c.due("removeEdge(8)", x.removeEdge(8), 8);
        c.due("addEdge after a removal", x.addEdge(5, 0, 1), 8);
        c.due("the tenth addEdge again", x.addEdge(0, 1, 1), -3);
        c.due("configure(2)", x.configure(2), 6);
        c.due("addEdge after configure", x.addEdge(0, 1, 1), 0);
        IharaZeta read = Graphs.read(2, NINE_PARALLEL);
        c.due("addEdge behind nine that were read", read.addEdge(0, 1, 1), -3);
    }

    private static void severalEdgesWithTheSameEnds(Checks c) {
        c.topic("Graph: several edges may have the same ends");
        IharaZeta x = Graphs.read(2, "");
        for (int edge = 0; edge < 9; edge++) {
            int a = edge % 2;
            c.due("addEdge(" + a + ",..)", x.addEdge(a, 1 - a, edge % 3 == 0 ? 1 : -1), edge);
        }
        for (int edge = 0; edge < 9; edge++) {
            c.due("headOf(" + 2 * edge + ")", x.headOf(2 * edge), 1 - edge % 2);
            c.due("headOf(" + (2 * edge + 1) + ")", x.headOf(2 * edge + 1), edge % 2);
            c.due("flipSign(" + edge + ")", x.flipSign(edge), edge % 3 == 0 ? -1 : 1);
        }
        c.due("degree(0)", x.degree(0), 9);
        c.due("degree(1)", x.degree(1), 9);
    }

    private static void edgesRemovedOneByOne(Checks c) {
        c.topic("promise 4: the number of edges then; INVALID_ARGUMENT if there is no such edge");
        for (int last = 0; last <= 1; last++) {
            IharaZeta x = Graphs.read(6, NINE);
            for (int edges = 9; edges >= 0; edges--) {
                int[] wrong = {-1, edges, edges + 1, 9, 10, MIN, MAX};
                for (int edge : wrong) {
                    c.due("removeEdge(" + edge + ") of " + edges, x.removeEdge(edge), -1);
                    c.due("edgeCount() after it", x.edgeCount(), edges);
                }
                if (edges > 0) {
                    int edge = last == 1 ? edges - 1 : 0;
                    c.due("removeEdge(" + edge + ") of " + edges, x.removeEdge(edge), edges - 1);
                    c.due("edgeCount() after the removal", x.edgeCount(), edges - 1);
                }
            }
        }
    }

    private static void greaterNumbersBecomeOneLess(Checks c) {
        c.topic("promise 4: the edges with greater numbers get numbers that are 1 less");
        for (int gone = 0; gone < 9; gone++) {
            IharaZeta x = Graphs.read(6, NINE);
            String after = " after removeEdge(" + gone + ")";
            c.due("removeEdge(" + gone + ")", x.removeEdge(gone), 8);
            for (int edge = 0; edge < 8; edge++) {
                int old = edge < gone ? edge : edge + 1;
                c.due("headOf(" + 2 * edge + ")" + after, x.headOf(2 * edge), NINE.charAt(4 * old + 2) - '0');
                c.due("headOf(" + (2 * edge + 1) + ")" + after, x.headOf(2 * edge + 1), NINE.charAt(4 * old) - '0');
                c.due("flipSign(" + edge + ")" + after, x.flipSign(edge), NINE.charAt(4 * old + 1) == '-' ? -1 : 1);
            }
            c.due("headOf(16)" + after, x.headOf(16), -1);
            c.due("flipSign(8)" + after, x.flipSign(8), 0);
        }
    }

    private static void flippedEdges(Checks c) {
        c.topic("promise 5: the new sign; 0 if there is no such edge");
        for (int edges = 0; edges <= 9; edges++) {
            IharaZeta x = Graphs.read(6, NINE.substring(0, 4 * edges));
            int[] wrong = {-1, edges, edges + 1, 9, MIN, MAX};
            for (int edge : wrong) {
                c.due("flipSign(" + edge + ") of " + edges, x.flipSign(edge), 0);
            }
            c.due("undo() after refused flips", x.undo(), 1);
            Graphs.write(x, NINE.substring(0, 4 * edges));
            x.loadGraph();
            for (int edge = 0; edge < edges; edge++) {
                int sign = edge % 2 == 0 ? 1 : -1;
                c.due("flipSign(" + edge + ") of " + edges, x.flipSign(edge), -sign);
                c.due("flipSign(" + edge + ") again", x.flipSign(edge), sign);
            }
            c.due("edgeCount() after the flips", x.edgeCount(), edges);
        }
    }

    private static void vertexAndEdgeCount(Checks c) {
        c.topic("promises 10 and 11: n from 1 to 6, E from 0 to 9");
        for (int n = 2; n <= 6; n++) {
            for (int edges = 0; edges <= 9; edges++) {
                IharaZeta x = Graphs.read(n, NINE_PARALLEL.substring(0, 4 * edges));
                c.due("vertexCount()", x.vertexCount(), n);
                c.due("edgeCount()", x.edgeCount(), edges);
            }
        }
        c.due("vertexCount() of one vertex", Graphs.read(1, "").vertexCount(), 1);
        c.due("edgeCount() of one vertex", Graphs.read(1, "").edgeCount(), 0);
    }

    private static void directedEdges(Checks c) {
        c.topic("promise 12: INVALID_ARGUMENT if there is no such directed edge");
        for (int edges = 0; edges <= 9; edges++) {
            IharaZeta x = Graphs.read(6, NINE.substring(0, 4 * edges));
            int[] wrong = {-1, -2, 2 * edges, 2 * edges + 1, 18, 19, MIN, MAX};
            for (int directed : wrong) {
                c.due("headOf(" + directed + ") of " + edges + " edges", x.headOf(directed), -1);
            }
            for (int directed = 0; directed < 2 * edges; directed++) {
                int place = directed / 2 * 4 + (directed % 2 == 0 ? 2 : 0);
                c.due("headOf(" + directed + ") of " + edges + " edges", x.headOf(directed), NINE.charAt(place) - '0');
            }
        }
    }

    private static void inverseDoesNotFollow(Checks c) {
        c.topic("Graph: f is not the inverse of e");
        IharaZeta x = Graphs.read(2, NINE_PARALLEL);
        for (int e = 0; e < 18; e++) {
            for (int f = 0; f < 18; f++) {
                boolean joined = e % 2 != f % 2;
                boolean inverse = e / 2 == f / 2 && e != f;
                c.due("follows(" + e + "," + f + ")", x.follows(e, f), joined && !inverse ? 1 : 0);
            }
        }
    }

    private static void followsOutOfRange(Checks c) {
        c.topic("promise 13: INVALID_ARGUMENT if there is no such directed edge");
        for (int edges = 0; edges <= 9; edges++) {
            IharaZeta x = Graphs.read(6, NINE.substring(0, 4 * edges));
            int[] wrong = {-1, 2 * edges, 2 * edges + 1, 18, MIN, MAX};
            int last = Math.max(0, 2 * edges - 1);
            for (int d : wrong) {
                c.due("follows(" + d + ",0) of " + edges + " edges", x.follows(d, 0), -1);
                c.due("follows(0," + d + ") of " + edges + " edges", x.follows(0, d), -1);
                c.due("follows(" + d + ",last) of " + edges + " edges", x.follows(d, last), -1);
                c.due("follows(last," + d + ") of " + edges + " edges", x.follows(last, d), -1);
                c.due("follows(" + d + "," + d + ") of " + edges + " edges", x.follows(d, d), -1);
            }
            if (edges > 0) {
                c.due("follows(0,0) of " + edges + " edges", x.follows(0, 0), 0);
                c.due("follows(last,last) of " + edges + " edges", x.follows(last, last), 0);
            }
        }
    }

    private static void degrees(Checks c) {
        c.topic("promise 14: INVALID_ARGUMENT if there is no such vertex");
        for (int n = 2; n <= 6; n++) {
            IharaZeta x = Graphs.read(n, NINE_PARALLEL);
            int[] wrong = {-1, -2, n, n + 1, 6, 7, MIN, MAX};
            for (int vertex : wrong) {
                c.due("degree(" + vertex + ") of " + n, x.degree(vertex), -1);
            }
            for (int vertex = 0; vertex < n; vertex++) {
                c.due("degree(" + vertex + ") of " + n, x.degree(vertex), vertex < 2 ? 9 : 0);
            }
        }
        c.due("degree(0) of one vertex", Graphs.read(1, "").degree(0), 0);
        c.due("degree(1) of one vertex", Graphs.read(1, "").degree(1), -1);
        c.due("degree(5), the second vertex of two edges", Graphs.read(6, NINE).degree(5), 2);
    }

    private static void components(Checks c) {
        c.topic("promise 15: a vertex without edges is one, too");
        for (int n = 1; n <= 6; n++) {
            c.due("components() of " + n, Graphs.read(n, "").components(), n);
            String path = "0-1;1-2;2-3;3-4;4-5;".substring(0, 4 * (n - 1));
            c.due("components() of a path of " + n, Graphs.read(n, path).components(), 1);
            if (n > 1) {
                c.due("components() of nine edges of " + n, Graphs.read(n, NINE_PARALLEL).components(), n - 1);
            }
        }
        c.due("components() joined from the end", Graphs.read(6, "5-4;4-3;3-2;2-1;1-0;").components(), 1);
        c.due("components() of a vertex apart", Graphs.read(6, "0-1;1-2;2-3;3-4;4-0;").components(), 2);
    }

    private static void ranks(Checks c) {
        c.topic("promise 16: E minus n plus the number of components, from 0 to 8");
        for (int n = 1; n <= 6; n++) {
            c.due("rank() of " + n + " vertices", Graphs.read(n, "").rank(), 0);
        }
        for (int n = 2; n <= 6; n++) {
            for (int edges = 1; edges <= 9; edges++) {
                IharaZeta x = Graphs.read(n, NINE_PARALLEL.substring(0, 4 * edges));
                c.due("rank() of " + edges + " parallel edges, n = " + n, x.rank(), edges - 1);
            }
        }
        c.due("rank() of a tree", Graphs.read(6, "0-1;0-2;0-3;0-4;0-5;").rank(), 0);
        c.due("rank() of a hexagon", Graphs.read(6, "0-1;1-2;2-3;3-4;4-5;5-0;").rank(), 1);
    }

    private static void balance(Checks c) {
        c.topic("promise 17: a part may be empty; the edges with the sign -1 are exactly those between");
        for (int n = 1; n <= 6; n++) {
            c.due("no edges, n = " + n, Graphs.read(n, "").isBalanced(), 1);
        }
        c.due("nine edges, a part is empty", Graphs.read(2, NINE_PARALLEL).isBalanced(), 1);
        c.due("nine edges, all between", Graphs.read(2, NINE_PARALLEL.replace('-', '~')).isBalanced(), 1);
        c.due("one edge 1", Graphs.read(2, "0-1;").isBalanced(), 1);
        c.due("one edge -1", Graphs.read(2, "0~1;").isBalanced(), 1);
        for (int odd = 0; odd < 9; odd++) {
            IharaZeta x = Graphs.read(2, NINE_PARALLEL);
            x.flipSign(odd);
            c.due("an edge -1 within a part: " + odd, x.isBalanced(), 0);
            IharaZeta y = Graphs.read(2, NINE_PARALLEL.replace('-', '~'));
            y.flipSign(odd);
            c.due("an edge 1 between the parts: " + odd, y.isBalanced(), 0);
        }
        for (int signs = 0; signs < 64; signs++) {
            IharaZeta x = Graphs.read(6, "0-1;2-3;4-5;1-2;3-4;5-0;");
            for (int edge = 0; edge < 6; edge++) {
                if ((signs >> edge & 1) == 1) {
                    x.flipSign(edge);
                }
            }
            c.due("a hexagon with the signs " + signs, x.isBalanced(), Integer.bitCount(signs) % 2 == 0 ? 1 : 0);
        }
        c.due("the least vertex alone", Graphs.read(3, "0~1;0~2;1-2;").isBalanced(), 1);
        c.due("the greatest vertex alone", Graphs.read(6, "5~0;5~4;0-4;1-2;2-3;3-1;").isBalanced(), 1);
    }
}
