import java.util.Random;

/** Runs of 512 calls on new objects, and whole portraits of graphs, against the reference. */
final class RandomRuns {
    private static final int CALLS = 512;
    private static final int[] ODD = {-1, 0, 1, 2, 5, 6, 9, 12, 13, 18, 19, 60, 255, 256,
        Integer.MIN_VALUE, Integer.MAX_VALUE, -2, -3, 1 << 30, -(1 << 30)};

    private final Checks checks;
    private final Random random;
    private IharaZeta program;
    private Reference reference;

    private RandomRuns(Checks checks, long seed) {
        this.checks = checks;
        this.random = new Random(seed);
        program = new IharaZeta();
        reference = new Reference();
    }

    static void run(Checks c) {
        for (int seed = 1; seed <= 120; seed++) {
            c.topic("random run " + seed);
            new RandomRuns(c, seed).mixedCalls();
        }
        for (int seed = 1; seed <= 160; seed++) {
            c.topic("random graph " + seed);
            new RandomRuns(c, 1000 + seed).wholeGraph(1 + seed % 6, random(seed, 10));
        }
        for (int edges = 0; edges <= 9; edges++) {
            c.topic("parallel edges, " + edges);
            new RandomRuns(c, 2000 + edges).wholeGraph(2, edges);
        }
    }

    private static int random(int seed, int bound) {
        return new Random(seed).nextInt(bound);
    }

    private void mixedCalls() {
        for (int call = 0; call < CALLS; call++) {
            int kind = random.nextInt(100);
            if (kind < 2) {
                call += writeText(CALLS - call - 1);
            } else if (kind < 12) {
                ask(3, random.nextInt(6), random.nextInt(6), random.nextBoolean() ? 1 : -1);
            } else if (kind < 20) {
                ask(2 + random.nextInt(8), argument(), argument(), argument());
            } else if (kind < 22) {
                ask(2, 2 + random.nextInt(5), 0, 0);
            } else if (kind < 30) {
                ask(10 + random.nextInt(26), odd(), odd(), odd());
            } else {
                ask(10 + random.nextInt(26), argument(), argument(), random.nextInt(6));
            }
        }
    }

    private int argument() {
        return random.nextInt(20) == 0 ? odd() : random.nextInt(random.nextBoolean() ? 4 : 20);
    }

    private int odd() {
        return ODD[random.nextInt(ODD.length)];
    }

    /** Writes some edges, now and then with a fault, and reads them; returns the number of calls. */
    private int writeText(int most) {
        StringBuilder text = new StringBuilder();
        int edges = random.nextInt(12);
        for (int i = 0; i < edges; i++) {
            int a = random.nextInt(3);
            text.append(a).append(random.nextBoolean() ? '-' : '~').append((a + 1 + random.nextInt(2)) % 3).append(';');
            if (random.nextInt(6) == 0) {
                text.insert(random.nextInt(text.length() + 1), ' ');
            }
            if (random.nextInt(30) == 0) {
                text.setCharAt(random.nextInt(text.length()), "012345;-~x".charAt(random.nextInt(10)));
            }
        }
        int calls = Math.min(most, text.length());
        for (int i = 0; i < calls; i++) {
            ask(6, text.charAt(i), 0, 0);
        }
        ask(8, 0, 0, 0);
        return calls;
    }

    private void wholeGraph(int n, int edges) {
        ask(2, n, 0, 0);
        for (int edge = 0; edge < edges && n > 1; edge++) {
            int a = random.nextInt(n);
            ask(3, a, (a + 1 + random.nextInt(n - 1)) % n, random.nextInt(3) == 0 ? -1 : 1);
        }
        for (int promise = 10; promise <= 35; promise++) {
            for (int p = -3; p <= 20; p++) {
                ask(promise, p, random.nextInt(20), random.nextInt(5));
            }
        }
        for (int length = 1; length <= 5; length++) {
            int primes = reference.representatives(length).size();
            for (int index = 0; index <= primes; index += primes < 40 ? 1 : 1 + primes / 20) {
                for (int position = 0; position < length; position++) {
                    ask(25, length, index, position);
                }
                ask(26, length, index, 0);
            }
        }
    }

    private void ask(int promise, int p, int q, int r) {
        String call = "promise " + promise + " (" + p + ", " + q + ", " + r + ")";
        checks.due(call, Calls.answer(program, promise, p, q, r), reference.answer(promise, p, q, r));
    }
}
