/** Promises 27 to 35: polynomials and spanning trees. */
final class PolynomialTests {
    private static final int MIN = Integer.MIN_VALUE;
    private static final int MAX = Integer.MAX_VALUE;

    private PolynomialTests() {
    }

    static void run(Checks c) {
        edgeCoefficient(c);
        signedCoefficient(c);
        vertexCoefficient(c);
        bassCoefficient(c);
        queriesInTurn(c);
        zetaCoefficient(c);
        edgeValue(c);
        taylorAtOne(c);
        edgeDegree(c);
        spanningTrees(c);
        outOfRange(c);
    }

    private static void edgeCoefficient(Checks c) {
        c.topic("promise 27, edgeCoefficient");
        IharaZeta x = Graphs.triangle();
        for (int k = 0; k <= 18; k++) {
            c.due("edgeCoefficient(" + k + ") of a triangle", x.edgeCoefficient(k), k == 0 || k == 6 ? 1 : k == 3 ? -2 : 0);
            c.due("edgeCoefficient(" + k + ") without edges", new IharaZeta().edgeCoefficient(k), k == 0 ? 1 : 0);
        }
        // (1 - u^2)^2 (1 - u) (1 - 2 u) (1 + u + 2 u^2)^3, as the books give it for K4
        long[] complete = product(power(new long[] {1, 0, -1}, 2), new long[] {1, -1}, new long[] {1, -2},
            power(new long[] {1, 1, 2}, 3));
        for (int k = 0; k <= 12; k++) {
            c.due("edgeCoefficient(" + k + ") of K4", Graphs.complete().edgeCoefficient(k), complete[k]);
        }
        // (1 - u^2)^7 ((1 + 8 u^2)^2 - 81 u^2)
        long[] bundle = product(power(new long[] {1, 0, -1}, 7), new long[] {1, 0, -65, 0, 64});
        for (int k = 0; k <= 18; k++) {
            c.due("edgeCoefficient(" + k + ") of nine edges", Graphs.bundle().edgeCoefficient(k), bundle[k]);
        }
    }

    private static void signedCoefficient(Checks c) {
        c.topic("promise 28, signedCoefficient");
        IharaZeta x = Graphs.read(3, "0-1;1~2;2-0;");
        for (int k = 0; k <= 18; k++) {
            c.due("signedCoefficient(" + k + ")", x.signedCoefficient(k), k == 0 || k == 6 ? 1 : k == 3 ? 2 : 0);
            c.due("edgeCoefficient(" + k + ") of it", x.edgeCoefficient(k), k == 0 || k == 6 ? 1 : k == 3 ? -2 : 0);
        }
        // (1 - u^2) ((1 + 2 u^2)^2 - u^2): with signs the three edges count as one
        long[] theta = product(new long[] {1, 0, -1}, new long[] {1, 0, 3, 0, 4});
        for (int k = 0; k <= 6; k++) {
            c.due("signedCoefficient(" + k + ") of a theta", Graphs.read(2, "0-1;0-1;0~1;").signedCoefficient(k), theta[k]);
        }
        c.due("signedCoefficient(0) without edges", new IharaZeta().signedCoefficient(0), 1);
        c.due("signedCoefficient(1) without edges", new IharaZeta().signedCoefficient(1), 0);
    }

    private static void vertexCoefficient(Checks c) {
        c.topic("promise 29, vertexCoefficient");
        long[] isolated = power(new long[] {1, 0, -1}, 6);
        long[] bundle = {1, 0, -65, 0, 64};
        long[] complete = product(new long[] {1, -1}, new long[] {1, -2}, power(new long[] {1, 1, 2}, 3));
        for (int k = 0; k <= 12; k++) {
            c.due("vertexCoefficient(" + k + ") of six vertices", Graphs.read(6, "").vertexCoefficient(k), isolated[k]);
            c.due("vertexCoefficient(" + k + ") of nine edges", Graphs.bundle().vertexCoefficient(k), k < 5 ? bundle[k] : 0);
            c.due("vertexCoefficient(" + k + ") of a path", Graphs.read(3, "0-1;1~2;").vertexCoefficient(k), k == 0 ? 1 : k == 2 ? -1 : 0);
            c.due("vertexCoefficient(" + k + ") of K4", Graphs.complete().vertexCoefficient(k), k < 9 ? complete[k] : 0);
        }
    }

    private static void bassCoefficient(Checks c) {
        c.topic("promise 30, bassCoefficient");
        IharaZeta apart = Graphs.read(6, "0-1;0~1;2-3;");
        for (int k = 0; k <= 18; k++) {
            c.due("bassCoefficient(" + k + ") without edges", Graphs.read(6, "").bassCoefficient(k), k == 0 ? 1 : 0);
            c.due("bassCoefficient(" + k + ") of a forest", Graphs.read(6, "0-1;2-3;3-4;").bassCoefficient(k), k == 0 ? 1 : 0);
            c.due("bassCoefficient(" + k + ") of a pair", apart.bassCoefficient(k), k == 0 || k == 4 ? 1 : k == 2 ? -2 : 0);
            c.due("bassCoefficient(" + k + ") of nine edges", Graphs.bundle().bassCoefficient(k), Graphs.bundle().edgeCoefficient(k));
            c.due("bassCoefficient(" + k + ") of K4", Graphs.complete().bassCoefficient(k), Graphs.complete().edgeCoefficient(k));
        }
    }

    /** Each query answers for the present graph, whatever was asked before. */
    private static void queriesInTurn(Checks c) {
        c.topic("queries in turn");
        IharaZeta x = Graphs.bundle();
        for (int round = 0; round < 3; round++) {
            c.due("bassCoefficient(18) of nine edges", x.bassCoefficient(18), -64);
            c.due("taylorAtOne(1) of nine edges", x.taylorAtOne(1), 0);
            c.due("zetaCoefficient(2) of nine edges", x.zetaCoefficient(2), 72);
            c.due("signedCoefficient(2) of nine edges", x.signedCoefficient(2), -72);
            c.due("vertexCoefficient(4) of nine edges", x.vertexCoefficient(4), 64);
            c.due("edgeDegree() of nine edges", x.edgeDegree(), 18);
            c.due("isBalanced() of nine edges", x.isBalanced(), 1);
            c.due("configure(3)", x.configure(3), 2);
            c.due("bassCoefficient(18) without edges", x.bassCoefficient(18), 0);
            c.due("bassCoefficient(2) without edges", x.bassCoefficient(2), 0);
            c.due("zetaCoefficient(2) without edges", x.zetaCoefficient(2), 0);
            c.due("edgeDegree() without edges", x.edgeDegree(), 0);
            x.undo();
        }
    }

    private static void zetaCoefficient(Checks c) {
        c.topic("promise 31, zetaCoefficient");
        for (int k = 0; k <= 12; k++) {
            c.due("zetaCoefficient(" + k + ") of a triangle", Graphs.triangle().zetaCoefficient(k), k % 3 == 0 ? k / 3 + 1 : 0);
            c.due("zetaCoefficient(" + k + ") without edges", new IharaZeta().zetaCoefficient(k), k == 0 ? 1 : 0);
        }
        c.due("zetaCoefficient(2) of nine edges", Graphs.bundle().zetaCoefficient(2), 72);
        c.due("zetaCoefficient(3) of K4: its primes", Graphs.complete().zetaCoefficient(3), 8);
        c.due("zetaCoefficient(4) of K4: its primes", Graphs.complete().zetaCoefficient(4), 6);
    }

    private static void edgeValue(Checks c) {
        c.topic("promise 32, edgeValue");
        IharaZeta x = Graphs.triangle();
        c.due("edgeValue(-2)", x.edgeValue(-2), 81);
        c.due("edgeValue(-1)", x.edgeValue(-1), 4);
        c.due("edgeValue(0)", x.edgeValue(0), 1);
        c.due("edgeValue(1)", x.edgeValue(1), 0);
        c.due("edgeValue(2)", x.edgeValue(2), 49);
        c.due("edgeValue(2) without edges", new IharaZeta().edgeValue(2), 1);
        c.due("edgeValue(2) of nine edges", Graphs.bundle().edgeValue(2), -2187L * (1 - 65 * 4 + 64 * 16));
    }

    private static void taylorAtOne(Checks c) {
        c.topic("promise 33, taylorAtOne");
        // (1 - u^3)^2 = v^2 (3 + 3 v + v^2)^2 with v = u - 1
        long[] due = {0, 0, 9, 18, 15, 6, 1};
        for (int k = 0; k <= 18; k++) {
            c.due("taylorAtOne(" + k + ") of a triangle", Graphs.triangle().taylorAtOne(k), k <= 6 ? due[k] : 0);
            c.due("taylorAtOne(" + k + ") without edges", new IharaZeta().taylorAtOne(k), k == 0 ? 1 : 0);
        }
        c.due("taylorAtOne(0) is the value", Graphs.complete().taylorAtOne(0), Graphs.complete().edgeValue(1));
        c.due("taylorAtOne(17) of nine edges", Graphs.bundle().taylorAtOne(17), -64 * 18);
        c.due("taylorAtOne(18) of nine edges", Graphs.bundle().taylorAtOne(18), -64);
        // Hashimoto: the first coefficient is +-2^rank (rank - 1) times the spanning trees
        c.due("taylorAtOne(3) of K4", Graphs.complete().taylorAtOne(3), 8 * 2 * 16);
    }

    private static void edgeDegree(Checks c) {
        c.topic("promise 34, edgeDegree");
        c.due("no edges", new IharaZeta().edgeDegree(), 0);
        c.due("a tree", Graphs.read(4, "0-1;1-2;1-3;").edgeDegree(), 0);
        c.due("a triangle", Graphs.triangle().edgeDegree(), 6);
        c.due("a triangle with a tail", Graphs.read(4, "0-1;1-2;2-0;2-3;").edgeDegree(), 6);
        c.due("nine edges", Graphs.bundle().edgeDegree(), 18);
        c.due("a hexagon", Graphs.read(6, "0-1;1-2;2-3;3-4;4-5;5-0;").edgeDegree(), 12);
    }

    private static void spanningTrees(Checks c) {
        c.topic("promise 35, spanningTrees");
        c.due("one vertex", Graphs.read(1, "").spanningTrees(), 1);
        c.due("two vertices", Graphs.read(2, "").spanningTrees(), 0);
        c.due("a tree", Graphs.read(4, "0~1;1-2;1-3;").spanningTrees(), 1);
        c.due("a triangle", Graphs.triangle().spanningTrees(), 3);
        c.due("K4", Graphs.complete().spanningTrees(), 16);
        c.due("nine edges", Graphs.bundle().spanningTrees(), 9);
        c.due("two triangles apart", Graphs.read(6, "0-1;1-2;2-0;3-4;4-5;5-3;").spanningTrees(), 0);
        c.due("K33", Graphs.read(6, "0-3;0-4;0-5;1-3;1-4;1-5;2-3;2-4;2-5;").spanningTrees(), 81);
        c.due("a prism", Graphs.read(6, "0-1;1-2;2-0;3-4;4-5;5-3;0-3;1-4;2-5;").spanningTrees(), 75);
        c.due("a doubled triangle", Graphs.read(3, "0-1;0-1;1-2;2-0;").spanningTrees(), 5);
        c.due("a triangle and a vertex", Graphs.read(4, "0-1;1-2;2-0;").spanningTrees(), 0);
    }

    private static void outOfRange(Checks c) {
        c.topic("promises 27 to 33, argument out of range");
        IharaZeta x = Graphs.triangle();
        int[] wrong = {-1, 19, MIN, MAX};
        for (int k : wrong) {
            c.due("edgeCoefficient(" + k + ")", x.edgeCoefficient(k), Long.MIN_VALUE);
            c.due("signedCoefficient(" + k + ")", x.signedCoefficient(k), Long.MIN_VALUE);
            c.due("vertexCoefficient(" + k + ")", x.vertexCoefficient(k), Long.MIN_VALUE);
            c.due("bassCoefficient(" + k + ")", x.bassCoefficient(k), Long.MIN_VALUE);
            c.due("zetaCoefficient(" + k + ")", x.zetaCoefficient(k), Long.MIN_VALUE);
            c.due("taylorAtOne(" + k + ")", x.taylorAtOne(k), Long.MIN_VALUE);
        }
        c.due("vertexCoefficient(13)", x.vertexCoefficient(13), Long.MIN_VALUE);
        c.due("zetaCoefficient(13)", x.zetaCoefficient(13), Long.MIN_VALUE);
        c.due("edgeValue(3)", x.edgeValue(3), Long.MIN_VALUE);
        c.due("edgeValue(-3)", x.edgeValue(-3), Long.MIN_VALUE);
        c.due("edgeValue(MIN)", x.edgeValue(MIN), Long.MIN_VALUE);
        c.due("edgeValue(MAX)", x.edgeValue(MAX), Long.MIN_VALUE);
    }

    private static long[] product(long[]... factors) {
        long[] all = {1};
        for (long[] factor : factors) {
            long[] next = new long[all.length + factor.length - 1];
            for (int i = 0; i < all.length; i++) {
                for (int j = 0; j < factor.length; j++) {
                    next[i + j] += all[i] * factor[j];
                }
            }
            all = next;
        }
        return all;
    }

    private static long[] power(long[] base, int exponent) {
        long[] all = {1};
        for (int i = 0; i < exponent; i++) {
            all = product(all, base);
        }
        return all;
    }
}
