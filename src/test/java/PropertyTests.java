/** Promises 10 to 17: properties of the graph. */
final class PropertyTests {
    private static final int MIN = Integer.MIN_VALUE;
    private static final int MAX = Integer.MAX_VALUE;

    private PropertyTests() {
    }

    static void run(Checks c) {
        counts(c);
        headOf(c);
        follows(c);
        degree(c);
        components(c);
        rank(c);
        isBalanced(c);
    }

    private static void counts(Checks c) {
        c.topic("promise 10, vertexCount");
        for (int n = 1; n <= 6; n++) {
            c.due("vertexCount()", Graphs.read(n, "").vertexCount(), n);
        }
        c.topic("promise 11, edgeCount");
        c.due("edgeCount()", Graphs.read(3, "").edgeCount(), 0);
        c.due("edgeCount()", Graphs.triangle().edgeCount(), 3);
        c.due("edgeCount()", Graphs.bundle().edgeCount(), 9);
    }

    private static void headOf(Checks c) {
        c.topic("promise 12, headOf");
        IharaZeta x = Graphs.read(6, "5-2;3~4;");
        c.due("headOf(0)", x.headOf(0), 2);
        c.due("headOf(1)", x.headOf(1), 5);
        c.due("headOf(2)", x.headOf(2), 4);
        c.due("headOf(3)", x.headOf(3), 3);
        c.due("headOf(4)", x.headOf(4), -1);
        c.due("headOf(-1)", x.headOf(-1), -1);
        c.due("headOf(MIN)", x.headOf(MIN), -1);
        c.due("headOf(MAX)", x.headOf(MAX), -1);
        c.due("headOf(0) without edges", new IharaZeta().headOf(0), -1);
        c.due("headOf(17)", Graphs.bundle().headOf(17), 0);
        c.due("headOf(18)", Graphs.bundle().headOf(18), -1);
    }

    private static void follows(Checks c) {
        c.topic("promise 13, follows");
        IharaZeta x = Graphs.read(3, "0-1;1-2;1-0;");
        c.due("follows(0,2)", x.follows(0, 2), 1);
        c.due("follows(2,0)", x.follows(2, 0), 0);
        c.due("follows(0,1): the inverse", x.follows(0, 1), 0);
        c.due("follows(1,0): the inverse", x.follows(1, 0), 0);
        c.due("follows(0,4): a parallel edge back", x.follows(0, 4), 1);
        c.due("follows(4,0)", x.follows(4, 0), 1);
        c.due("follows(0,5)", x.follows(0, 5), 0);
        c.due("follows(3,1)", x.follows(3, 1), 1);
        c.due("follows(0,0)", x.follows(0, 0), 0);
        c.due("follows(6,0)", x.follows(6, 0), -1);
        c.due("follows(0,6)", x.follows(0, 6), -1);
        c.due("follows(-1,0)", x.follows(-1, 0), -1);
        c.due("follows(0,-1)", x.follows(0, -1), -1);
        c.due("follows(MIN,MAX)", x.follows(MIN, MAX), -1);
        c.due("follows(MAX,MIN)", x.follows(MAX, MIN), -1);
    }

    private static void degree(Checks c) {
        c.topic("promise 14, degree");
        IharaZeta x = Graphs.read(4, "0-1;1~0;1-2;");
        c.due("degree(0)", x.degree(0), 2);
        c.due("degree(1)", x.degree(1), 3);
        c.due("degree(2)", x.degree(2), 1);
        c.due("degree(3)", x.degree(3), 0);
        c.due("degree(4)", x.degree(4), -1);
        c.due("degree(-1)", x.degree(-1), -1);
        c.due("degree(MIN)", x.degree(MIN), -1);
        c.due("degree(MAX)", x.degree(MAX), -1);
        c.due("degree(1)", Graphs.bundle().degree(1), 9);
    }

    private static void components(Checks c) {
        c.topic("promise 15, components");
        c.due("components()", Graphs.read(1, "").components(), 1);
        c.due("components()", Graphs.read(6, "").components(), 6);
        c.due("components()", Graphs.read(6, "0-1;2-3;4-5;").components(), 3);
        c.due("components()", Graphs.read(6, "0-1;2-3;4-5;1-2;3-4;").components(), 1);
        c.due("components()", Graphs.read(6, "0-5;5-1;1-0;2-4;4-2;").components(), 3);
        c.due("components()", Graphs.bundle().components(), 1);
    }

    private static void rank(Checks c) {
        c.topic("promise 16, rank");
        c.due("rank()", Graphs.read(6, "").rank(), 0);
        c.due("rank()", Graphs.read(6, "0-1;2-3;4-5;").rank(), 0);
        c.due("rank()", Graphs.read(6, "0-5;5-1;1-0;2-4;4-2;").rank(), 2);
        c.due("rank()", Graphs.complete().rank(), 3);
        c.due("rank()", Graphs.bundle().rank(), 8);
    }

    private static void isBalanced(Checks c) {
        c.topic("promise 17, isBalanced");
        c.due("no edges", Graphs.read(4, "").isBalanced(), 1);
        c.due("a tree", Graphs.read(4, "0~1;1~2;1-3;").isBalanced(), 1);
        c.due("a positive triangle", Graphs.triangle().isBalanced(), 1);
        c.due("a triangle with one -1", Graphs.read(3, "0~1;1-2;2-0;").isBalanced(), 0);
        c.due("a triangle with two", Graphs.read(3, "0~1;1~2;2-0;").isBalanced(), 1);
        c.due("a triangle with three", Graphs.read(3, "0~1;1~2;2~0;").isBalanced(), 0);
        c.due("a negative square", Graphs.read(4, "0~1;1~2;2~3;3~0;").isBalanced(), 1);
        c.due("two negative parallel edges", Graphs.read(2, "0~1;1~0;").isBalanced(), 1);
        c.due("two parallel edges", Graphs.read(2, "0-1;1~0;").isBalanced(), 0);
        c.due("one part is not", Graphs.read(6, "0~1;1~2;2-0;3-4;4-5;5~3;").isBalanced(), 0);
        c.due("all parts are", Graphs.read(6, "0~1;1~2;2-0;3-4;4~5;5~3;").isBalanced(), 1);
        c.due("nine edges", Graphs.bundle().isBalanced(), 1);
        c.due("nine edges, the last one -1", Graphs.read(2, "0-1;0-1;0-1;0-1;0-1;0-1;0-1;0-1;0~1;").isBalanced(), 0);
        IharaZeta less = Graphs.read(2, "0-1;0-1;0~1;");
        less.removeEdge(2);
        c.due("the only -1 is removed", less.isBalanced(), 1);
        c.due("groups united late", Graphs.read(4, "0~1;2~3;1~2;3~0;").isBalanced(), 1);
        c.due("groups united late", Graphs.read(4, "0~1;2~3;1-2;3~0;").isBalanced(), 0);
        c.due("groups united late", Graphs.read(4, "0~1;2-3;2~1;3-0;").isBalanced(), 1);
    }
}
