/** The boundary cases of the section "Polynomials" and of the promises 27 to 35, a test each. */
final class PolynomialBoundaries {
    private static final int MIN = Integer.MIN_VALUE;
    private static final int MAX = Integer.MAX_VALUE;
    private static final long ILLEGAL = Long.MIN_VALUE;
    private static final String NINE = "0-1;0-1;0-1;0-1;0-1;0-1;0-1;0-1;0-1;";
    private static final String TREE = "0-1;1-2;0-3;3-4;3-5;";
    /** The complete bipartite graph of three and three vertices. */
    private static final String THREE_AND_THREE = "0-3;0-4;0-5;1-3;1-4;1-5;2-3;2-4;2-5;";

    private PolynomialBoundaries() {
    }

    static void run(Checks c) {
        outOfRange(c);
        noEdges(c);
        smallestPower(c);
        greatestPowerOfEdges(c);
        greatestPowerOfSigns(c);
        greatestPowerOfVertices(c);
        vertexWithoutEdges(c);
        bassQuotient(c);
        bassIsTheEdgePolynomial(c);
        greatestPowerOfZeta(c);
        placesOfValues(c);
        taylorEnds(c);
        degrees(c);
        noSpanningTree(c);
        spanningTrees(c);
    }

    private static void outOfRange(Checks c) {
        c.topic("promises 27 to 33: ILLEGAL if the argument is out of range");
        IharaZeta[] all = {new IharaZeta(), Graphs.read(1, ""), Graphs.triangle(), Graphs.bundle()};
        int[] promises = {27, 28, 29, 30, 31, 32, 33};
        int[] smallest = {0, 0, 0, 0, 0, -2, 0};
        int[] greatest = {18, 18, 12, 18, 12, 2, 18};
        for (IharaZeta x : all) {
            for (int i = 0; i < promises.length; i++) {
                int low = smallest[i];
                int high = greatest[i];
                int[] wrong = {low - 1, high + 1, low - 2, high + 2, -18, -19, 100, MIN, MAX, MIN + 2, MAX - 2};
                for (int k : wrong) {
                    c.due("promise " + promises[i] + " (" + k + ")", Calls.answer(x, promises[i], k, 0, 0), ILLEGAL);
                }
                for (int k = low; k <= high; k++) {
                    c.holds("promise " + promises[i] + " (" + k + ") has an answer",
                        Calls.answer(x, promises[i], k, 0, 0) != ILLEGAL);
                }
            }
        }
    }

    private static void noEdges(Checks c) {
        c.topic("Polynomials: if there are no edges it is 1");
        for (int n = 1; n <= 6; n++) {
            IharaZeta x = Graphs.read(n, "");
            for (int k = 0; k <= 18; k++) {
                int due = k == 0 ? 1 : 0;
                c.due("edgeCoefficient(" + k + "), n = " + n, x.edgeCoefficient(k), due);
                c.due("signedCoefficient(" + k + "), n = " + n, x.signedCoefficient(k), due);
                c.due("bassCoefficient(" + k + "), n = " + n, x.bassCoefficient(k), due);
                c.due("taylorAtOne(" + k + "), n = " + n, x.taylorAtOne(k), due);
                if (k <= 12) {
                    c.due("zetaCoefficient(" + k + "), n = " + n, x.zetaCoefficient(k), due);
                }
            }
            for (int u = -2; u <= 2; u++) {
                c.due("edgeValue(" + u + "), n = " + n, x.edgeValue(u), 1);
            }
            c.due("edgeDegree(), n = " + n, x.edgeDegree(), 0);
        }
    }

    private static void smallestPower(Checks c) {
        c.topic("promises 27 to 31: k = 0, the smallest, and k = 1");
        String[] graphs = {"0-1;", "0~1;1~0;", NINE, TREE, THREE_AND_THREE};
        for (String graph : graphs) {
            IharaZeta x = Graphs.read(6, graph);
            for (int promise = 27; promise <= 31; promise++) {
                c.due("promise " + promise + " (0) of " + graph, Calls.answer(x, promise, 0, 0, 0), 1);
                c.due("promise " + promise + " (1) of " + graph, Calls.answer(x, promise, 1, 0, 0), 0);
            }
        }
    }

    /** The product of the degrees minus 1, with the sign that the number of vertices and edges gives. */
    private static void greatestPowerOfEdges(Checks c) {
        c.topic("promises 27 and 30: k = 18, the greatest");
        c.due("edgeCoefficient(18) of nine edges", Graphs.bundle().edgeCoefficient(18), -64);
        c.due("edgeCoefficient(17) of nine edges", Graphs.bundle().edgeCoefficient(17), 0);
        c.due("bassCoefficient(18) of nine edges", Graphs.bundle().bassCoefficient(18), -64);
        c.due("bassCoefficient(17) of nine edges", Graphs.bundle().bassCoefficient(17), 0);
        IharaZeta x = Graphs.read(6, THREE_AND_THREE);
        c.due("edgeCoefficient(18) of 3 and 3", x.edgeCoefficient(18), -64);
        c.due("bassCoefficient(18) of 3 and 3", x.bassCoefficient(18), -64);
        x.removeEdge(8);
        c.due("edgeCoefficient(18) of eight edges", x.edgeCoefficient(18), 0);
        c.due("edgeCoefficient(16) of eight edges", x.edgeCoefficient(16), 16);
        c.due("bassCoefficient(16) of eight edges", x.bassCoefficient(16), 16);
    }

    private static void greatestPowerOfSigns(Checks c) {
        c.topic("promise 28: k = 18, the greatest, and signs");
        IharaZeta x = Graphs.bundle();
        for (int edge = 0; edge < 9; edge++) {
            c.due("signedCoefficient(18), " + edge + " are -1", x.signedCoefficient(18), -64);
            c.due("signedCoefficient(17), " + edge + " are -1", x.signedCoefficient(17), 0);
            // e = 9 - 2 * edge is the sum of the signs: (1 - u^2)^7 ((1 + 8 u^2)^2 - e^2 u^2)
            c.due("signedCoefficient(2), " + edge + " are -1", x.signedCoefficient(2), 9 - (9 - 2 * edge) * (9 - 2 * edge));
            x.flipSign(edge);
        }
        c.due("signedCoefficient(2), all are -1", x.signedCoefficient(2), x.edgeCoefficient(2));
        IharaZeta hexagon = Graphs.read(6, "0-1;1-2;2-3;3-4;4-5;5~0;");
        c.due("signedCoefficient(6) of a negative hexagon", hexagon.signedCoefficient(6), 2);
        c.due("signedCoefficient(12) of a negative hexagon", hexagon.signedCoefficient(12), 1);
        c.due("edgeCoefficient(6) of a negative hexagon", hexagon.edgeCoefficient(6), -2);
    }

    private static void greatestPowerOfVertices(Checks c) {
        c.topic("promise 29: k = 12, the greatest");
        IharaZeta x = Graphs.read(6, THREE_AND_THREE);
        c.due("vertexCoefficient(12) of 3 and 3", x.vertexCoefficient(12), 64);
        c.due("vertexCoefficient(11) of 3 and 3", x.vertexCoefficient(11), 0);
        c.due("vertexCoefficient(12) of six vertices", Graphs.read(6, "").vertexCoefficient(12), 1);
        c.due("vertexCoefficient(10) of six vertices", Graphs.read(6, "").vertexCoefficient(10), -6);
        c.due("vertexCoefficient(12) of five vertices", Graphs.read(5, "").vertexCoefficient(12), 0);
        c.due("vertexCoefficient(10) of five vertices", Graphs.read(5, "").vertexCoefficient(10), -1);
    }

    private static void vertexWithoutEdges(Checks c) {
        c.topic("Polynomials: the degrees minus 1, a degree of 0 too");
        // a vertex alone brings 1 - u^2
        long[] pair = {1, 0, -1};
        for (int n = 1; n <= 6; n++) {
            long[] due = power(pair, n);
            long[] with = product(power(pair, Math.max(0, n - 2)), new long[] {1, 0, -65, 0, 64});
            for (int k = 0; k <= 12; k++) {
                c.due("vertexCoefficient(" + k + "), n = " + n, Graphs.read(n, "").vertexCoefficient(k), at(due, k));
                if (n > 1) {
                    c.due("vertexCoefficient(" + k + ") with nine edges, n = " + n,
                        Graphs.read(n, NINE).vertexCoefficient(k), at(with, k));
                }
            }
        }
    }

    private static void bassQuotient(Checks c) {
        c.topic("Polynomials: if E is less than n, the Bass polynomial is the quotient");
        for (int n = 2; n <= 6; n++) {
            for (int edges = 0; edges <= 9; edges++) {
                IharaZeta x = Graphs.read(n, NINE.substring(0, 4 * edges));
                // the edges alone: (1 - u^2)^(E - 2) ((1 + (E - 1) u^2)^2 - E^2 u^2) = (1 - u^2)^(E - 1) (1 - (E - 1)^2 u^2)
                long[] due = {1};
                if (edges > 1) {
                    due = product(power(new long[] {1, 0, -1}, edges - 1), new long[] {1, 0, -(edges - 1) * (edges - 1)});
                }
                for (int k = 0; k <= 18; k++) {
                    c.due("bassCoefficient(" + k + "), n = " + n + ", E = " + edges, x.bassCoefficient(k), at(due, k));
                }
            }
        }
        for (int edges = 0; edges <= 5; edges++) {
            IharaZeta x = Graphs.read(6, TREE.substring(0, 4 * edges));
            for (int k = 0; k <= 18; k++) {
                c.due("bassCoefficient(" + k + ") of a forest, E = " + edges, x.bassCoefficient(k), k == 0 ? 1 : 0);
            }
        }
    }

    private static void bassIsTheEdgePolynomial(Checks c) {
        c.topic("Polynomials: E less than n, equal to n, and more");
        String text = "0-1;1-2;2-0;2-3;0-3;0-1;3-1;1-0;3-2;";
        for (int n = 4; n <= 6; n++) {
            for (int edges = 0; edges <= 9; edges++) {
                IharaZeta x = Graphs.read(n, text.substring(0, 4 * edges));
                for (int k = 0; k <= 18; k++) {
                    c.due("bassCoefficient(" + k + "), n = " + n + ", E = " + edges, x.bassCoefficient(k), x.edgeCoefficient(k));
                }
            }
        }
    }

    private static void greatestPowerOfZeta(Checks c) {
        c.topic("promise 31: k = 12, the greatest; no result overflows");
        // 1 / ((1 - x)^8 (1 - 64 x)) with x = u^2
        long[] series = {1, 0, 0, 0, 0, 0, 0};
        for (int factor = 0; factor < 9; factor++) {
            for (int i = 1; i <= 6; i++) {
                series[i] += (factor == 0 ? 64 : 1) * series[i - 1];
            }
        }
        for (int k = 0; k <= 12; k++) {
            c.due("zetaCoefficient(" + k + ") of nine edges", Graphs.bundle().zetaCoefficient(k), k % 2 == 0 ? series[k / 2] : 0);
            c.due("zetaCoefficient(" + k + ") of a tree", Graphs.read(6, TREE).zetaCoefficient(k), k == 0 ? 1 : 0);
        }
        IharaZeta hexagon = Graphs.read(6, "0-1;1-2;2-3;3-4;4-5;5-0;");
        c.due("zetaCoefficient(12) of a hexagon", hexagon.zetaCoefficient(12), 3);
        c.due("zetaCoefficient(11) of a hexagon", hexagon.zetaCoefficient(11), 0);
    }

    private static void placesOfValues(Checks c) {
        c.topic("promise 32: u from -2 to 2");
        long nine = -2187L * (1 - 65 * 4 + 64 * 16);
        long[] due = {nine, 0, 1, 0, nine};
        long[] pentagon = {1089, 4, 1, 0, 961};
        for (int u = -2; u <= 2; u++) {
            c.due("edgeValue(" + u + ") of nine edges", Graphs.bundle().edgeValue(u), due[u + 2]);
            c.due("edgeValue(" + u + ") of a tree", Graphs.read(6, TREE).edgeValue(u), 1);
            c.due("edgeValue(" + u + ") of a pentagon", Graphs.read(6, "0-1;1-2;2-3;3-4;4-0;").edgeValue(u), pentagon[u + 2]);
        }
    }

    private static void taylorEnds(Checks c) {
        c.topic("promise 33: k = 0, the smallest, and k = 18, the greatest");
        // 1 - u^2 = -v (2 + v) and 1 - 64 u^2 = -(63 + 128 v + 64 v^2) with v = u - 1
        long[] nine = product(power(new long[] {0, -2, -1}, 8), new long[] {-63, -128, -64});
        for (int k = 0; k <= 18; k++) {
            c.due("taylorAtOne(" + k + ") of nine edges", Graphs.bundle().taylorAtOne(k), at(nine, k));
            c.due("taylorAtOne(" + k + ") of a tree", Graphs.read(6, TREE).taylorAtOne(k), k == 0 ? 1 : 0);
        }
        c.due("taylorAtOne(0) of nine edges is the value at 1", Graphs.bundle().taylorAtOne(0), 0);
        c.due("taylorAtOne(18) of 3 and 3", Graphs.read(6, THREE_AND_THREE).taylorAtOne(18), -64);
    }

    private static void degrees(Checks c) {
        c.topic("promise 34: from 0 to 18");
        for (int edges = 0; edges <= 5; edges++) {
            c.due("a forest, E = " + edges, Graphs.read(6, TREE.substring(0, 4 * edges)).edgeDegree(), 0);
        }
        for (int edges = 0; edges <= 9; edges++) {
            IharaZeta x = Graphs.read(6, NINE.substring(0, 4 * edges));
            c.due(edges + " parallel edges", x.edgeDegree(), edges < 2 ? 0 : 2 * edges);
            c.due("the coefficient at the degree", x.edgeCoefficient(x.edgeDegree()) == 0 ? 0 : 1, 1);
        }
        c.due("3 and 3", Graphs.read(6, THREE_AND_THREE).edgeDegree(), 18);
        c.due("a pair with a tail", Graphs.read(6, "0-1;0-1;1-2;2-3;3-4;4-5;").edgeDegree(), 4);
    }

    private static void noSpanningTree(Checks c) {
        c.topic("promise 35: 0 if the graph is not connected, 1 if it has a single vertex");
        c.due("a single vertex", Graphs.read(1, "").spanningTrees(), 1);
        for (int n = 2; n <= 6; n++) {
            c.due("no edges, n = " + n, Graphs.read(n, "").spanningTrees(), 0);
            c.due("nine parallel edges, n = " + n, Graphs.read(n, NINE).spanningTrees(), n == 2 ? 9 : 0);
        }
        c.due("a vertex apart", Graphs.read(5, "0-1;0-2;0-3;1-2;1-3;2-3;0-1;0-2;0-3;").spanningTrees(), 0);
        c.due("two parts", Graphs.read(6, "0-1;1-2;2-0;3-4;4-5;5-3;3-4;0-1;1-2;").spanningTrees(), 0);
        c.due("four edges of six vertices", Graphs.read(6, "0-1;1-2;2-3;3-4;").spanningTrees(), 0);
    }

    private static void spanningTrees(Checks c) {
        c.topic("promise 35: edges with the same ends count as different");
        for (int edges = 1; edges <= 9; edges++) {
            c.due(edges + " parallel edges", Graphs.read(2, NINE.substring(0, 4 * edges)).spanningTrees(), edges);
        }
        c.due("a tree", Graphs.read(6, TREE).spanningTrees(), 1);
        c.due("a tripled path", Graphs.read(4, "0-1;1~0;0-1;1-2;1-2;2-1;3-2;2-3;3~2;").spanningTrees(), 27);
        c.due("a tripled triangle", Graphs.read(3, "0-1;0-1;0-1;1-2;1-2;1-2;2-0;2-0;2-0;").spanningTrees(), 27);
        c.due("3 and 3", Graphs.read(6, THREE_AND_THREE).spanningTrees(), 81);
    }

    private static long at(long[] coefficients, int k) {
        return k < coefficients.length ? coefficients[k] : 0;
    }

    private static long[] product(long[] a, long[] b) {
        long[] all = new long[a.length + b.length - 1];
        for (int i = 0; i < a.length; i++) {
            for (int j = 0; j < b.length; j++) {
                all[i + j] += a[i] * b[j];
            }
        }
        return all;
    }

    private static long[] power(long[] base, int exponent) {
        long[] all = {1};
        for (int i = 0; i < exponent; i++) {
            all = product(all, base);
        }
        return all;
    }
}
