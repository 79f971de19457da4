/** Promises 18 to 26: closed walks and primes. */
final class WalkTests {
    private static final int MIN = Integer.MIN_VALUE;
    private static final int MAX = Integer.MAX_VALUE;

    private WalkTests() {
    }

    static void run(Checks c) {
        walks(c);
        signedWalks(c);
        coverWalks(c);
        primes(c);
        positivePrimes(c);
        girth(c);
        period(c);
        primeEdge(c);
        primeSign(c);
        lengthRange(c);
    }

    private static void walks(Checks c) {
        c.topic("promise 18, walks");
        IharaZeta x = Graphs.triangle();
        for (int m = 1; m <= 18; m++) {
            c.due("walks(" + m + ") of a triangle", x.walks(m), m % 3 == 0 ? 6 : 0);
        }
        IharaZeta tree = Graphs.read(6, "0-1;0-2;0-3;3-4;3-5;");
        IharaZeta bundle = Graphs.bundle();
        long power = 1;
        for (int m = 1; m <= 18; m++) {
            power *= 8;
            c.due("walks(" + m + ") of a tree", tree.walks(m), 0);
            c.due("walks(" + m + ") of nine edges", bundle.walks(m), m % 2 == 1 ? 0 : 2 * power + 16);
        }
        c.due("walks(3) of K4", Graphs.complete().walks(3), 24);
        c.due("walks(4) of K4", Graphs.complete().walks(4), 24);
        c.due("walks(5) of K4", Graphs.complete().walks(5), 0);
        c.due("walks(6) of K4", Graphs.complete().walks(6), 96);
    }

    private static void signedWalks(Checks c) {
        c.topic("promise 19, signedWalks");
        IharaZeta x = Graphs.read(3, "0-1;1~2;2-0;");
        c.due("signedWalks(1)", x.signedWalks(1), 0);
        c.due("signedWalks(3)", x.signedWalks(3), -6);
        c.due("signedWalks(6)", x.signedWalks(6), 6);
        c.due("signedWalks(9)", x.signedWalks(9), -6);
        c.due("signedWalks(18)", x.signedWalks(18), 6);
        IharaZeta theta = Graphs.read(2, "0-1;0-1;0~1;");
        c.due("signedWalks(2)", theta.signedWalks(2), -4);
        c.due("walks(2)", theta.walks(2), 12);
        c.due("signedWalks(18) of nine edges", Graphs.bundle().signedWalks(18), Graphs.bundle().walks(18));
    }

    private static void coverWalks(Checks c) {
        c.topic("promise 20, coverWalks");
        IharaZeta x = Graphs.read(3, "0-1;1~2;2-0;");
        c.due("coverWalks(3): the cover is a hexagon", x.coverWalks(3), 0);
        c.due("coverWalks(6): the cover is a hexagon", x.coverWalks(6), 12);
        c.due("coverWalks(3): two triangles", Graphs.triangle().coverWalks(3), 12);
        c.due("coverWalks(18) of nine edges", Graphs.bundle().coverWalks(18), 2 * Graphs.bundle().walks(18));
    }

    private static void primes(Checks c) {
        c.topic("promise 21, primes");
        IharaZeta x = Graphs.triangle();
        for (int m = 1; m <= 18; m++) {
            c.due("primes(" + m + ") of a triangle", x.primes(m), m == 3 ? 2 : 0);
        }
        IharaZeta theta = Graphs.read(2, "0-1;0-1;0-1;");
        c.due("primes(2)", theta.primes(2), 6);
        c.due("primes(3)", theta.primes(3), 0);
        c.due("primes(4)", theta.primes(4), 6);
        c.due("primes(6)", theta.primes(6), 20);
        c.due("primes(1)", theta.primes(1), 0);
        c.due("primes(2) of nine edges", Graphs.bundle().primes(2), 72);
        c.due("primes(18)", theta.primes(18), 29120);
        c.due("primes(18) of nine edges", Graphs.bundle().primes(18), 2001599834357760L);
        c.due("primes(18) without edges", new IharaZeta().primes(18), 0);
    }

    private static void positivePrimes(Checks c) {
        c.topic("promise 22, positivePrimes");
        IharaZeta x = Graphs.read(3, "0-1;1~2;2-0;");
        c.due("positivePrimes(3)", x.positivePrimes(3), 0);
        c.due("positivePrimes(6): a repetition is no prime", x.positivePrimes(6), 0);
        c.due("positivePrimes(3) of a triangle", Graphs.triangle().positivePrimes(3), 2);
        c.due("positivePrimes(6) of a triangle", Graphs.triangle().positivePrimes(6), 0);
        IharaZeta theta = Graphs.read(2, "0-1;0-1;0~1;");
        c.due("positivePrimes(2)", theta.positivePrimes(2), 2);
        c.due("positivePrimes(4)", theta.positivePrimes(4), 2);
        c.due("primes(4)", theta.primes(4), 6);
        c.due("positivePrimes(6): three times a negative one is negative", theta.positivePrimes(6), 12);
        c.due("positivePrimes(18)", theta.positivePrimes(18), 14504);
    }

    private static void girth(Checks c) {
        c.topic("promise 23, girth");
        c.due("no edges", new IharaZeta().girth(), -9);
        c.due("a tree", Graphs.read(4, "0-1;1-2;1-3;").girth(), -9);
        c.due("a pair", Graphs.read(4, "0-1;1-0;").girth(), 2);
        c.due("a triangle", Graphs.triangle().girth(), 3);
        c.due("a square", Graphs.read(5, "0-1;1-2;2-3;3-0;3-4;").girth(), 4);
        c.due("a pentagon", Graphs.read(5, "0-1;1-2;2-3;3-4;4-0;").girth(), 5);
        c.due("a hexagon", Graphs.read(6, "0-1;1-2;2-3;3-4;4-5;5-0;").girth(), 6);
    }

    private static void period(Checks c) {
        c.topic("promise 24, period");
        c.due("no edges", new IharaZeta().period(), -9);
        c.due("a tree", Graphs.read(4, "0-1;1-2;1-3;").period(), -9);
        c.due("a hexagon", Graphs.read(6, "0-1;1-2;2-3;3-4;4-5;5-0;").period(), 6);
        c.due("a square with a chord", Graphs.read(4, "0-1;1-2;2-3;3-0;0-2;").period(), 1);
        c.due("two triangles at a vertex", Graphs.read(5, "0-1;1-2;2-0;0-3;3-4;4-0;").period(), 3);
        c.due("nine edges", Graphs.bundle().period(), 2);
        c.due("two squares", Graphs.read(6, "0-1;1-2;2-3;3-0;0-4;4-2;").period(), 4);
        c.due("a square and a pair", Graphs.read(4, "0-1;1-2;2-3;3-0;0-2;0-2;").period(), 1);
        c.due("a triangle and a pair apart", Graphs.read(5, "0-1;1-2;2-0;3-4;3-4;").period(), 1);
    }

    private static void primeEdge(Checks c) {
        c.topic("promise 25, primeEdge");
        IharaZeta x = Graphs.triangle();
        int[] due = {0, 2, 4, 1, 5, 3};
        for (int i = 0; i < 6; i++) {
            c.due("primeEdge(3," + i / 3 + "," + i % 3 + ")", x.primeEdge(3, i / 3, i % 3), due[i]);
        }
        c.due("primeEdge(3,2,0)", x.primeEdge(3, 2, 0), -9);
        c.due("primeEdge(4,0,0)", x.primeEdge(4, 0, 0), -9);
        c.due("primeEdge(1,0,0)", x.primeEdge(1, 0, 0), -9);
        c.due("primeEdge(5,0,4)", x.primeEdge(5, 0, 4), -9);
        c.due("primeEdge(0,0,0)", x.primeEdge(0, 0, 0), -1);
        c.due("primeEdge(6,0,0)", x.primeEdge(6, 0, 0), -1);
        c.due("primeEdge(3,-1,0)", x.primeEdge(3, -1, 0), -1);
        c.due("primeEdge(3,0,3)", x.primeEdge(3, 0, 3), -1);
        c.due("primeEdge(3,0,-1)", x.primeEdge(3, 0, -1), -1);
        c.due("primeEdge(3,MAX,0)", x.primeEdge(3, MAX, 0), -9);
        c.due("primeEdge(MIN,MIN,MIN)", x.primeEdge(MIN, MIN, MIN), -1);
        c.due("primeEdge(MAX,MAX,MAX)", x.primeEdge(MAX, MAX, MAX), -1);
        c.due("primeEdge(3,9,3): no position, no prime", x.primeEdge(3, 9, 3), -1);
        allWords(c, Graphs.read(2, "0-1;0-1;0-1;"), 4);
        allWords(c, Graphs.bundle(), 2);
        allWords(c, Graphs.bundle(), 4);
        allWords(c, Graphs.read(4, "0-1;0~2;0-3;1-2;1-3;2~3;0-1;2-3;0-2;"), 5);
    }

    /** Checks that the primes are found in order, all of them, and each by its smallest rotation. */
    private static void allWords(Checks c, IharaZeta x, int length) {
        String previous = "";
        int index = 0;
        for (; x.primeEdge(length, index, 0) != -9; index++) {
            StringBuilder word = new StringBuilder();
            for (int position = 0; position < length; position++) {
                word.append((char) ('a' + x.primeEdge(length, index, position)));
            }
            c.holds(word + " comes behind " + previous, word.toString().compareTo(previous) > 0);
            for (int turn = 1; turn < length; turn++) {
                String other = word.substring(turn) + word.substring(0, turn);
                c.holds(word + " comes before " + other, word.toString().compareTo(other) < 0);
            }
            previous = word.toString();
        }
        c.due("the number of primes found", index, x.primes(length));
    }

    private static void primeSign(Checks c) {
        c.topic("promise 26, primeSign");
        IharaZeta x = Graphs.read(3, "0-1;1~2;2-0;");
        c.due("primeSign(3,0)", x.primeSign(3, 0), -1);
        c.due("primeSign(3,1)", x.primeSign(3, 1), -1);
        c.due("primeSign(3,2)", x.primeSign(3, 2), 0);
        c.due("primeSign(3,-1)", x.primeSign(3, -1), 0);
        c.due("primeSign(0,0)", x.primeSign(0, 0), 0);
        c.due("primeSign(6,0)", x.primeSign(6, 0), 0);
        c.due("primeSign(MIN,MIN)", x.primeSign(MIN, MIN), 0);
        c.due("primeSign(MAX,MAX)", x.primeSign(MAX, MAX), 0);
        c.due("primeSign(3,MAX)", x.primeSign(3, MAX), 0);
        x.flipSign(0);
        c.due("primeSign(3,0) with two -1", x.primeSign(3, 0), 1);
        IharaZeta theta = Graphs.read(2, "0-1;0-1;0~1;");
        c.due("primeSign(2,0): edges 0 and 3", theta.primeSign(2, 0), 1);
        c.due("primeSign(2,1): edges 0 and 5", theta.primeSign(2, 1), -1);
    }

    private static void lengthRange(Checks c) {
        c.topic("promises 18 to 22, length out of range");
        IharaZeta x = Graphs.triangle();
        int[] wrong = {0, 19, -1, MIN, MAX};
        for (int length : wrong) {
            c.due("walks(" + length + ")", x.walks(length), Long.MIN_VALUE);
            c.due("signedWalks(" + length + ")", x.signedWalks(length), Long.MIN_VALUE);
            c.due("coverWalks(" + length + ")", x.coverWalks(length), Long.MIN_VALUE);
            c.due("primes(" + length + ")", x.primes(length), Long.MIN_VALUE);
            c.due("positivePrimes(" + length + ")", x.positivePrimes(length), Long.MIN_VALUE);
        }
    }
}
