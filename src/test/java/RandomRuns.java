import java.util.Random;

/** Runs of 512 calls on new objects, and whole portraits of graphs, against the reference. */
final class RandomRuns {
    private static final int CALLS = 512;
    private static final int[] ODD = {-1, 0, 1, 2, 5, 6, 9, 12, 13, 18, 19, 60, 255, 256,
        Integer.MIN_VALUE, Integer.MAX_VALUE, -2, -3, 1 << 30, -(1 << 30)};

    private final Checks checks;
    private final Random random;
    private IharaZeta program;
    private Reference reference;

    private RandomRuns(Checks checks, long seed) {
        this.checks = checks;
        this.random = new Random(seed);
        program = new IharaZeta();
        reference = new Reference();
    }

    static void run(Checks c) {
        for (int seed = 1; seed <= 120; seed++) {
            c.topic("random run " + seed);
            new RandomRuns(c, seed).mixedCalls();
        }
        for (int seed = 1; seed <= 160; seed++) {
            c.topic("random graph " + seed);
            new RandomRuns(c, 1000 + seed).wholeGraph(1 + seed % 6, random(seed, 10));
        }
        for (int edges = 0; edges <= 9; edges++) {
            c.topic("parallel edges, " + edges);
            new RandomRuns(c, 2000 + edges).wholeGraph(2, edges);
        }
    }

    private static int random(int seed, int bound) {
        return new Random(seed).nextInt(bound);
    }

    private void mixedCalls() {
        for (int call = 0; call < CALLS; call++) {
            int kind = random.nextInt(100);
            if (kind < 2) {
                call += writeText(CALLS - call - 1);
            } else if (kind < 12) {
                ask(3, random.nextInt(6), random.nextInt(6), random.nextBoolean() ? 1 : -1);
            } else if (kind < 20) {
                ask(2 + random.nextInt(8), argument(), argument(), argument());
            } else if (kind < 22) {
                ask(2, 2 + random.nextInt(5), 0, 0);
            } else if (kind < 30) {
                ask(10 + random.nextInt(26), odd(), odd(), odd());
            } else {
                ask(10 + random.nextInt(26), argument(), argument(), random.nextInt(6));
            }
        }
    }

    private int argument() {
        return random.nextInt(20) == 0 ? odd() : random.nextInt(random.nextBoolean() ? 4 : 20);
    }

    private int odd() {
        return ODD[random.nextInt(ODD.length)];
    }

    /** Writes some edges, now and then with a fault, and reads them; returns the number of calls. */
    private int writeText(int most) {
        StringBuilder text = new StringBuilder();
        int edges = random.nextInt(12);
        for (int i = 0; i < edges; i++) {
            int a = random.nextInt(3);
            text.append(a).append(random.nextBoolean() ? '-' : '~').append((a + 1 + random.nextInt(2)) % 3).append(';');
            if (random.nextInt(6) == 0) {
                text.insert(random.nextInt(text.length() + 1), ' ');
            }
            if (random.nextInt(30) == 0) {
                text.setCharAt(random.nextInt(text.length()), "012345;-~x".charAt(random.nextInt(10)));
            }
        }
        int calls = Math.min(most, text.length());
        for (int i = 0; i < calls; i++) {
            ask(6, text.charAt(i), 0, 0);
        }
        ask(8, 0, 0, 0);
        return calls;
    }

    private void wholeGraph(int n, int edges) {
        ask(2, n, 0, 0);
        for (int edge = 0; edge < edges && n > 1; edge++) {
            int a = random.nextInt(n);
            ask(3, a, (a + 1 + random.nextInt(n - 1)) % n, random.nextInt(3) == 0 ? -1 : 1);
        }
        for (int promise = 10; promise <= 35; promise++) {
            for (int p = -3; p <= 20; p++) {
                ask(promise, p, random.nextInt(20), random.nextInt(5));
            }
        }
        for (int length = 1; length <= 5; length++) {
            int primes = reference.representatives(length).size();
            for (int index = 0; index <= primes; index += primes < 40 ? 1 : 1 + primes / 20) {
                for (int position = 0; position < length; position++) {
                    ask(25, length, index, position);
                }
                ask(26, length, index, 0);
            }
        }
    }

    private void ask(int promise, int p, int q, int r) {
        String call = "promise " + promise + " (" + p + ", " + q + ", " + r + ")";
        checks.due(call, answer(program, promise, p, q, r), reference.answer(promise, p, q, r));
    }

    private static long answer(IharaZeta x, int promise, int p, int q, int r) {
        switch (promise) {
            case 2: return x.configure(p);
            case 3: return x.addEdge(p, q, r);
            case 4: return x.removeEdge(p);
            case 5: return x.flipSign(p);
            case 6: return x.appendCharacter(p);
            case 7: return x.clearText();
            case 8: return x.loadGraph();
            case 9: return x.undo();
            case 10: return x.vertexCount();
            case 11: return x.edgeCount();
            case 12: return x.headOf(p);
            case 13: return x.follows(p, q);
            case 14: return x.degree(p);
            case 15: return x.components();
            case 16: return x.rank();
            case 17: return x.isBalanced();
            case 18: return x.walks(p);
            case 19: return x.signedWalks(p);
            case 20: return x.coverWalks(p);
            case 21: return x.primes(p);
            case 22: return x.positivePrimes(p);
            case 23: return x.girth();
            case 24: return x.period();
            case 25: return x.primeEdge(p, q, r);
            case 26: return x.primeSign(p, q);
            case 27: return x.edgeCoefficient(p);
            case 28: return x.signedCoefficient(p);
            case 29: return x.vertexCoefficient(p);
            case 30: return x.bassCoefficient(p);
            case 31: return x.zetaCoefficient(p);
            case 32: return x.edgeValue(p);
            case 33: return x.taylorAtOne(p);
            case 34: return x.edgeDegree();
            case 35: return x.spanningTrees();
            default: throw new IllegalStateException("no promise " + promise);
        }
    }
}
