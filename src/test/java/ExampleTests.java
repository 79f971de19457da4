/** The four examples of the document, as they are printed there. */
final class ExampleTests {
    private ExampleTests() {
    }

    static void run(Checks c) {
        triangle(c);
        parallelEdges(c);
        singleEdge(c);
        textWithAnError(c);
    }

    private static void triangle(Checks c) {
        c.topic("example 1");
        IharaZeta x = new IharaZeta();
        c.due("configure(3)", x.configure(3), 4);
        c.due("addEdge(0,1,1)", x.addEdge(0, 1, 1), 0);
        c.due("addEdge(1,2,1)", x.addEdge(1, 2, 1), 1);
        c.due("addEdge(2,0,1)", x.addEdge(2, 0, 1), 2);
        c.due("walks(3)", x.walks(3), 6);
        c.due("primes(3)", x.primes(3), 2);
        c.due("primeEdge(3,0,0)", x.primeEdge(3, 0, 0), 0);
        c.due("primeEdge(3,0,1)", x.primeEdge(3, 0, 1), 2);
        c.due("edgeCoefficient(3)", x.edgeCoefficient(3), -2);
        c.due("edgeCoefficient(6)", x.edgeCoefficient(6), 1);
        c.due("rank()", x.rank(), 1);
        c.due("components()", x.components(), 1);
    }

    private static void parallelEdges(Checks c) {
        c.topic("example 2");
        IharaZeta x = new IharaZeta();
        c.due("addEdge(0,1,1)", x.addEdge(0, 1, 1), 0);
        c.due("addEdge(0,1,-1)", x.addEdge(0, 1, -1), 1);
        c.due("walks(2)", x.walks(2), 4);
        c.due("signedWalks(2)", x.signedWalks(2), -4);
        c.due("coverWalks(2)", x.coverWalks(2), 0);
        c.due("primeSign(2,0)", x.primeSign(2, 0), -1);
        c.due("isBalanced()", x.isBalanced(), 0);
        c.due("girth()", x.girth(), 2);
    }

    private static void singleEdge(Checks c) {
        c.topic("example 3");
        IharaZeta x = new IharaZeta();
        c.due("configure(2)", x.configure(2), 4);
        c.due("addEdge(0,1,1)", x.addEdge(0, 1, 1), 0);
        c.due("edgeDegree()", x.edgeDegree(), 0);
        c.due("bassCoefficient(0)", x.bassCoefficient(0), 1);
        c.due("vertexCoefficient(2)", x.vertexCoefficient(2), -1);
        c.due("girth()", x.girth(), -9);
    }

    private static void textWithAnError(Checks c) {
        c.topic("example 4");
        IharaZeta x = new IharaZeta();
        c.due("configure(3)", x.configure(3), 4);
        c.due("appendCharacter(48)", x.appendCharacter(48), 1);
        c.due("appendCharacter(45)", x.appendCharacter(45), 2);
        c.due("appendCharacter(49)", x.appendCharacter(49), 3);
        c.due("appendCharacter(59)", x.appendCharacter(59), 4);
        c.due("appendCharacter(49)", x.appendCharacter(49), 5);
        c.due("appendCharacter(45)", x.appendCharacter(45), 6);
        c.due("appendCharacter(49)", x.appendCharacter(49), 7);
        c.due("appendCharacter(59)", x.appendCharacter(59), 8);
        c.due("loadGraph()", x.loadGraph(), -16);
        c.due("clearText()", x.clearText(), 8);
        c.due("walks(0)", x.walks(0), Long.MIN_VALUE);
        c.due("addEdge(0,0,1)", x.addEdge(0, 0, 1), -1);
    }
}
