/** Calls of the program by the numbers of their promises, 2 to 35. */
final class Calls {
    private Calls() {
    }

    /** The arguments that a method does not take are passed over. */
    static long answer(IharaZeta x, int promise, int p, int q, int r) {
        switch (promise) {
            case 2: return x.configure(p);
            case 3: return x.addEdge(p, q, r);
            case 4: return x.removeEdge(p);
            case 5: return x.flipSign(p);
            case 6: return x.appendCharacter(p);
            case 7: return x.clearText();
            case 8: return x.loadGraph();
            case 9: return x.undo();
            case 10: return x.vertexCount();
            case 11: return x.edgeCount();
            case 12: return x.headOf(p);
            case 13: return x.follows(p, q);
            case 14: return x.degree(p);
            case 15: return x.components();
            case 16: return x.rank();
            case 17: return x.isBalanced();
            case 18: return x.walks(p);
            case 19: return x.signedWalks(p);
            case 20: return x.coverWalks(p);
            case 21: return x.primes(p);
            case 22: return x.positivePrimes(p);
            case 23: return x.girth();
            case 24: return x.period();
            case 25: return x.primeEdge(p, q, r);
            case 26: return x.primeSign(p, q);
            case 27: return x.edgeCoefficient(p);
            case 28: return x.signedCoefficient(p);
            case 29: return x.vertexCoefficient(p);
            case 30: return x.bassCoefficient(p);
            case 31: return x.zetaCoefficient(p);
            case 32: return x.edgeValue(p);
            case 33: return x.taylorAtOne(p);
            case 34: return x.edgeDegree();
            case 35: return x.spanningTrees();
            default: throw new IllegalStateException("no promise " + promise);
        }
    }
}
