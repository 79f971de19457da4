/** The boundary cases of the section "Closed walks and primes" and of the promises 18 to 26. */
final class WalkBoundaries {
    private static final int MIN = Integer.MIN_VALUE;
    private static final int MAX = Integer.MAX_VALUE;
    private static final long ILLEGAL = Long.MIN_VALUE;
    private static final String HEXAGON = "0-1;1-2;2-3;3-4;4-5;5-0;";

    private WalkBoundaries() {
    }

    static void run(Checks c) {
        lengthOutOfRange(c);
        noEdges(c);
        smallestLength(c);
        greatestLength(c);
        noTurningBack(c);
        noTail(c);
        differentBeginnings(c);
        signCountsEachTime(c);
        repetitionIsNoPrime(c);
        otherDirectionIsAnotherPrime(c);
        coverOfAnOddCycle(c);
        positiveNoneAndAll(c);
        girths(c);
        periods(c);
        primeEdgeOutOfRange(c);
        primeEdgeEnds(c);
        orderIsThatOfNumbers(c);
        representativeIsTheSmallest(c);
        primeSigns(c);
    }

    /** A cycle of 2 to 6 vertices. */
    private static IharaZeta cycle(int n) {
        return Graphs.read(n, HEXAGON.substring(0, 4 * (n - 1)) + (n - 1) + "-0;");
    }

    private static void lengthOutOfRange(Checks c) {
        c.topic("promises 18 to 22: ILLEGAL if length is out of range");
        int[] wrong = {0, 19, -1, 20, -18, MIN, MAX, MIN + 1, MAX - 1};
        IharaZeta[] all = {new IharaZeta(), Graphs.read(1, ""), Graphs.triangle(), Graphs.bundle()};
        for (IharaZeta x : all) {
            for (int length : wrong) {
                for (int promise = 18; promise <= 22; promise++) {
                    c.due("promise " + promise + " (" + length + ")", Calls.answer(x, promise, length, 0, 0), ILLEGAL);
                }
            }
        }
    }

    private static void noEdges(Checks c) {
        c.topic("promises 18 to 26: no edges");
        for (int n = 1; n <= 6; n++) {
            IharaZeta x = Graphs.read(n, "");
            for (int length = 1; length <= 18; length++) {
                for (int promise = 18; promise <= 22; promise++) {
                    c.due("promise " + promise + " (" + length + ")", Calls.answer(x, promise, length, 0, 0), 0);
                }
            }
            c.due("girth()", x.girth(), -9);
            c.due("period()", x.period(), -9);
            for (int length = 1; length <= 5; length++) {
                c.due("primeEdge(" + length + ",0,0)", x.primeEdge(length, 0, 0), -9);
                c.due("primeSign(" + length + ",0)", x.primeSign(length, 0), 0);
            }
        }
    }

    private static void smallestLength(Checks c) {
        c.topic("promises 18 to 26: length 1, the smallest; an edge has two different ends");
        IharaZeta[] all = {Graphs.triangle(), Graphs.bundle(), Graphs.complete(), Graphs.read(2, "0~1;1~0;")};
        for (IharaZeta x : all) {
            for (int promise = 18; promise <= 22; promise++) {
                c.due("promise " + promise + " (1)", Calls.answer(x, promise, 1, 0, 0), 0);
            }
            c.due("primeEdge(1,0,0)", x.primeEdge(1, 0, 0), -9);
            c.due("primeSign(1,0)", x.primeSign(1, 0), 0);
        }
    }

    private static void greatestLength(Checks c) {
        c.topic("promises 18 to 22: length 18, the greatest; no result overflows");
        IharaZeta x = Graphs.bundle();
        long walks = 2 * (1L << 54) + 16;
        c.due("walks(18)", x.walks(18), walks);
        c.due("signedWalks(18)", x.signedWalks(18), walks);
        c.due("coverWalks(18)", x.coverWalks(18), 2 * walks);
        c.due("primes(18)", x.primes(18), 2001599834357760L);
        c.due("positivePrimes(18)", x.positivePrimes(18), 2001599834357760L);
        c.due("walks(17)", x.walks(17), 0);
        c.due("walks(18) of a triangle", Graphs.triangle().walks(18), 6);
        c.due("primes(18) of a triangle", Graphs.triangle().primes(18), 0);
        IharaZeta odd = Graphs.read(3, "0~1;1-2;2-0;");
        c.due("signedWalks(18) of a negative triangle", odd.signedWalks(18), 6);
        c.due("coverWalks(18) of a negative triangle", odd.coverWalks(18), 12);
        c.due("signedWalks(15) of a negative triangle", odd.signedWalks(15), -6);
    }

    private static void noTurningBack(Checks c) {
        c.topic("Closed walks: it does not turn back, at its end neither");
        String[] forests = {"0-1;", "1~0;", "0-1;2-3;", "0-1;1-2;2-3;3-4;4-5;", "0-1;0-2;0-3;0-4;0-5;"};
        for (String forest : forests) {
            IharaZeta x = Graphs.read(6, forest);
            for (int length = 1; length <= 18; length++) {
                c.due("walks(" + length + ") of " + forest, x.walks(length), 0);
                c.due("signedWalks(" + length + ") of " + forest, x.signedWalks(length), 0);
                c.due("primes(" + length + ") of " + forest, x.primes(length), 0);
            }
            c.due("primeEdge(2,0,0) of " + forest, x.primeEdge(2, 0, 0), -9);
        }
    }

    private static void noTail(Checks c) {
        c.topic("Closed walks: it has no tail");
        IharaZeta x = Graphs.read(5, "3-0;0-1;1-2;2-0;4-3;");
        for (int length = 1; length <= 18; length++) {
            c.due("walks(" + length + ") of a triangle with a tail", x.walks(length), length % 3 == 0 ? 6 : 0);
            c.due("primes(" + length + ") of a triangle with a tail", x.primes(length), length == 3 ? 2 : 0);
        }
        c.due("primeEdge(3,0,0)", x.primeEdge(3, 0, 0), 2);
        c.due("primeEdge(3,1,0)", x.primeEdge(3, 1, 0), 3);
        c.due("primeEdge(5,0,0)", x.primeEdge(5, 0, 0), -9);
    }

    private static void differentBeginnings(Checks c) {
        c.topic("Closed walks: those that begin at different places are different");
        for (int n = 2; n <= 6; n++) {
            IharaZeta x = cycle(n);
            for (int length = 1; length <= 18; length++) {
                c.due("walks(" + length + ") of a cycle of " + n, x.walks(length), length % n == 0 ? 2 * n : 0);
            }
        }
    }

    /** Two triangles and a bridge: a walk of length 8 crosses the bridge to and fro. */
    private static void signCountsEachTime(Checks c) {
        c.topic("Closed walks: a sign is counted as often as its edge occurs");
        IharaZeta x = Graphs.read(6, "0-1;1-2;2-0;3-4;4-5;5-3;0~3;");
        c.due("walks(8)", x.walks(8), 32);
        c.due("signedWalks(8): the bridge counts twice", x.signedWalks(8), 32);
        c.due("primes(8)", x.primes(8), 4);
        c.due("positivePrimes(8)", x.positivePrimes(8), 4);
        c.due("primes(11)", x.primes(11), 8);
        x.flipSign(0);
        c.due("signedWalks(8) with a negative triangle", x.signedWalks(8), -32);
        c.due("positivePrimes(8) with a negative triangle", x.positivePrimes(8), 0);
        c.due("positivePrimes(11): the triangle counts once or twice", x.positivePrimes(11), 4);
        c.due("primeSign(3,0)", x.primeSign(3, 0), -1);
        IharaZeta pair = Graphs.read(2, "0-1;0~1;");
        for (int length = 2; length <= 18; length += 2) {
            c.due("signedWalks(" + length + ") of a negative pair", pair.signedWalks(length), length % 4 == 0 ? 4 : -4);
        }
    }

    private static void repetitionIsNoPrime(Checks c) {
        c.topic("Primes: a closed walk that repeats a shorter one is not primitive");
        for (int n = 2; n <= 6; n++) {
            IharaZeta x = cycle(n);
            IharaZeta y = cycle(n);
            y.flipSign(n - 1);
            for (int length = 1; length <= 18; length++) {
                c.due("primes(" + length + ") of a cycle of " + n, x.primes(length), length == n ? 2 : 0);
                c.due("positivePrimes(" + length + ") of a cycle of " + n, x.positivePrimes(length), length == n ? 2 : 0);
                c.due("positivePrimes(" + length + ") of a negative one", y.positivePrimes(length), 0);
            }
        }
        c.due("primeEdge(4,0,0) of a pair", cycle(2).primeEdge(4, 0, 0), -9);
        c.due("primeSign(4,0) of a pair", cycle(2).primeSign(4, 0), 0);
        // the pair 0 3 twice is none, but 0 3 0 5 is one
        IharaZeta three = Graphs.read(2, "0-1;0-1;0-1;");
        int[] due = {0, 3, 0, 5};
        for (int position = 0; position < 4; position++) {
            c.due("primeEdge(4,0," + position + ")", three.primeEdge(4, 0, position), due[position]);
        }
    }

    private static void otherDirectionIsAnotherPrime(Checks c) {
        c.topic("Primes: a cycle and the same cycle in the other direction");
        for (int n = 2; n <= 5; n++) {
            IharaZeta x = cycle(n);
            c.due("primes(" + n + ")", x.primes(n), 2);
            for (int position = 0; position < n; position++) {
                int back = position == 0 ? 1 : 2 * (n - position) + 1;
                c.due("primeEdge(" + n + ",0," + position + ")", x.primeEdge(n, 0, position), 2 * position);
                c.due("primeEdge(" + n + ",1," + position + ")", x.primeEdge(n, 1, position), back);
            }
            c.due("primeEdge(" + n + ",2,0)", x.primeEdge(n, 2, 0), -9);
        }
    }

    private static void coverOfAnOddCycle(Checks c) {
        c.topic("promise 20: a cycle with the sign -1 has a cycle of twice the length as its cover");
        for (int n = 2; n <= 6; n++) {
            for (int negative = 0; negative <= n; negative++) {
                IharaZeta x = cycle(n);
                for (int edge = 0; edge < negative; edge++) {
                    x.flipSign(edge);
                }
                int turn = negative % 2 == 0 ? n : 2 * n;
                for (int length = 1; length <= 18; length++) {
                    c.due("coverWalks(" + length + "), " + negative + " of " + n + " are -1",
                        x.coverWalks(length), length % turn == 0 ? 4 * n : 0);
                }
            }
        }
    }

    private static void positiveNoneAndAll(Checks c) {
        c.topic("promise 22: none or all of the primes have the sign 1");
        IharaZeta minus = Graphs.read(2, "0~1;0~1;0~1;0~1;0~1;0~1;0~1;0~1;0~1;");
        IharaZeta odd = Graphs.read(3, "0~1;1-2;2-0;");
        IharaZeta pair = Graphs.read(2, "0-1;0~1;");
        for (int length = 1; length <= 18; length++) {
            c.due("positivePrimes(" + length + ") of nine edges -1", minus.positivePrimes(length), minus.primes(length));
            c.due("positivePrimes(" + length + ") of a negative triangle", odd.positivePrimes(length), 0);
            c.due("positivePrimes(" + length + ") of a negative pair", pair.positivePrimes(length), 0);
        }
        c.due("positivePrimes(2) of nine edges -1", minus.positivePrimes(2), 72);
        // of 1, 1 and -1: the primes 0 3 and 1 2 have the sign 1, the four others -1
        IharaZeta theta = Graphs.read(2, "0-1;0-1;0~1;");
        long[] all = {6, 6, 20};
        long[] positive = {2, 2, 12};
        for (int i = 0; i < 3; i++) {
            c.due("primes(" + 2 * (i + 1) + ")", theta.primes(2 * i + 2), all[i]);
            c.due("positivePrimes(" + 2 * (i + 1) + ")", theta.positivePrimes(2 * i + 2), positive[i]);
        }
    }

    private static void girths(Checks c) {
        c.topic("promise 23: the smallest length; NONE if there is none");
        c.due("a tree", Graphs.read(6, "0-1;0-2;0-3;0-4;0-5;").girth(), -9);
        c.due("an edge", Graphs.read(2, "0-1;").girth(), -9);
        for (int n = 2; n <= 6; n++) {
            c.due("a cycle of " + n, cycle(n).girth(), n);
        }
        c.due("nine edges", Graphs.bundle().girth(), 2);
        c.due("a pair -1", Graphs.read(2, "0~1;0-1;").girth(), 2);
        c.due("a hexagon with a chord", Graphs.read(6, HEXAGON + "0-3;").girth(), 4);
        c.due("a triangle and a pair apart", Graphs.read(5, "0-1;1-2;2-0;3-4;4-3;").girth(), 2);
        IharaZeta opened = cycle(6);
        opened.removeEdge(3);
        c.due("a hexagon without an edge", opened.girth(), -9);
    }

    private static void periods(Checks c) {
        c.topic("promise 24: the greatest common divisor of all lengths; NONE if there are none");
        c.due("a tree", Graphs.read(6, "0-1;0-2;0-3;0-4;0-5;").period(), -9);
        c.due("an edge", Graphs.read(2, "0-1;").period(), -9);
        for (int n = 2; n <= 6; n++) {
            c.due("a cycle of " + n, cycle(n).period(), n);
        }
        c.due("cycles of 4, 4 and 6", Graphs.read(6, "0-1;0-2;2-3;3-1;0-4;4-5;5-1;").period(), 2);
        c.due("its girth", Graphs.read(6, "0-1;0-2;2-3;3-1;0-4;4-5;5-1;").girth(), 4);
        c.due("a square and a pair apart", Graphs.read(6, "0-1;1-2;2-3;3-0;4-5;4-5;").period(), 2);
        c.due("a triangle and a pair apart", Graphs.read(5, "0-1;1-2;2-0;3-4;4-3;").period(), 1);
        c.due("two triangles apart", Graphs.read(6, "0-1;1-2;2-0;3-4;4-5;5-3;").period(), 3);
        c.due("two triangles and a bridge", Graphs.read(6, "0-1;1-2;2-0;3-4;4-5;5-3;0-3;").period(), 1);
        c.due("a pentagon with a chord", Graphs.read(5, "0-1;1-2;2-3;3-4;4-0;0-2;").period(), 1);
        c.due("nine edges", Graphs.bundle().period(), 2);
        c.due("lengths of 2, 4 and then 5", Graphs.read(5, "0-1;0-1;0-1;0-2;2-3;3-4;4-1;").period(), 1);
        c.due("lengths of 3, 6 and 9", Graphs.read(5, "0-1;1-2;2-0;0-3;3-4;4-0;").period(), 3);
    }

    private static void primeEdgeOutOfRange(Checks c) {
        c.topic("promise 25: INVALID_ARGUMENT if length or position is out of range, or index is negative");
        IharaZeta[] all = {new IharaZeta(), Graphs.read(1, ""), cycle(5), cycle(6), Graphs.bundle()};
        int[] lengths = {0, 6, -1, 7, MIN, MAX};
        int[] negative = {-1, -2, MIN};
        for (IharaZeta x : all) {
            for (int length : lengths) {
                c.due("primeEdge(" + length + ",0,0)", x.primeEdge(length, 0, 0), -1);
                c.due("primeEdge(" + length + ",MAX,0)", x.primeEdge(length, MAX, 0), -1);
                c.due("primeEdge(" + length + ",0,5)", x.primeEdge(length, 0, 5), -1);
                c.due("primeEdge(" + length + ",-1,-1)", x.primeEdge(length, -1, -1), -1);
            }
            for (int length = 1; length <= 5; length++) {
                for (int index : negative) {
                    c.due("primeEdge(" + length + "," + index + ",0)", x.primeEdge(length, index, 0), -1);
                    c.due("primeEdge(" + length + "," + index + ",last)", x.primeEdge(length, index, length - 1), -1);
                }
                int[] positions = {-1, -2, length, length + 1, MIN, MAX};
                for (int position : positions) {
                    c.due("primeEdge(" + length + ",0," + position + ")", x.primeEdge(length, 0, position), -1);
                    c.due("no prime: primeEdge(" + length + ",MAX," + position + ")", x.primeEdge(length, MAX, position), -1);
                }
            }
        }
    }

    private static void primeEdgeEnds(Checks c) {
        c.topic("promise 25: the first and the last prime, the first and the last position; NONE behind");
        IharaZeta x = Graphs.bundle();
        c.due("primeEdge(2,0,0)", x.primeEdge(2, 0, 0), 0);
        c.due("primeEdge(2,0,1)", x.primeEdge(2, 0, 1), 3);
        c.due("primeEdge(2,71,0)", x.primeEdge(2, 71, 0), 15);
        c.due("primeEdge(2,71,1)", x.primeEdge(2, 71, 1), 16);
        c.due("primeEdge(2,72,0)", x.primeEdge(2, 72, 0), -9);
        c.due("primeEdge(2,72,1)", x.primeEdge(2, 72, 1), -9);
        c.due("primeEdge(2,MAX,1)", x.primeEdge(2, MAX, 1), -9);
        c.due("primeSign(2,71)", x.primeSign(2, 71), 1);
        c.due("primeSign(2,72)", x.primeSign(2, 72), 0);
        int last = (int) x.primes(4) - 1;
        int[] due = {13, 16, 15, 16};
        for (int position = 0; position < 4; position++) {
            c.due("primeEdge(4," + last + "," + position + ")", x.primeEdge(4, last, position), due[position]);
            c.due("primeEdge(4," + (last + 1) + "," + position + ")", x.primeEdge(4, last + 1, position), -9);
        }
        for (int length = 1; length <= 5; length += 2) {
            c.due("primeEdge(" + length + ",0,0) of nine edges", x.primeEdge(length, 0, 0), -9);
        }
        IharaZeta five = cycle(5);
        c.due("primeEdge(5,0,4)", five.primeEdge(5, 0, 4), 8);
        c.due("primeEdge(5,1,4)", five.primeEdge(5, 1, 4), 3);
        c.due("primeEdge(5,2,4)", five.primeEdge(5, 2, 4), -9);
        c.due("primeEdge(5,0,0) of a hexagon", cycle(6).primeEdge(5, 0, 0), -9);
    }

    private static void orderIsThatOfNumbers(Checks c) {
        c.topic("promise 25: lexicographic order, of numbers above 9 too");
        IharaZeta x = Graphs.bundle();
        for (int index = 0; index < 8; index++) {
            c.due("primeEdge(2," + index + ",0)", x.primeEdge(2, index, 0), 0);
            c.due("primeEdge(2," + index + ",1)", x.primeEdge(2, index, 1), 2 * index + 3);
            c.due("primeEdge(2," + (index + 8) + ",0)", x.primeEdge(2, index + 8, 0), 1);
            c.due("primeEdge(2," + (index + 8) + ",1)", x.primeEdge(2, index + 8, 1), 2 * index + 2);
        }
        c.due("primeEdge(2,16,0)", x.primeEdge(2, 16, 0), 2);
        c.due("primeEdge(2,16,1)", x.primeEdge(2, 16, 1), 5);
    }

    /** The edges stand in the text so that a walk along the triangle meets the smallest one last. */
    private static void representativeIsTheSmallest(Checks c) {
        c.topic("Primes: the representative is the lexicographically smallest sequence");
        IharaZeta x = Graphs.read(3, "0-1;2-0;1-2;");
        int[] due = {0, 4, 2, 1, 3, 5};
        for (int i = 0; i < 6; i++) {
            c.due("primeEdge(3," + i / 3 + "," + i % 3 + ")", x.primeEdge(3, i / 3, i % 3), due[i]);
        }
        IharaZeta three = Graphs.read(2, "0-1;0-1;0-1;");
        String[] words = {"0305", "0343", "0525", "1214", "1252", "1434"};
        for (int index = 0; index < 6; index++) {
            for (int position = 0; position < 4; position++) {
                c.due("primeEdge(4," + index + "," + position + ")", three.primeEdge(4, index, position),
                    words[index].charAt(position) - '0');
            }
        }
        c.due("primeEdge(4,6,0)", three.primeEdge(4, 6, 0), -9);
    }

    private static void primeSigns(Checks c) {
        c.topic("promise 26: 0 if length is out of range, index is negative, or there is no such prime");
        IharaZeta[] all = {new IharaZeta(), Graphs.read(1, ""), cycle(5), cycle(6), Graphs.bundle()};
        int[] wrong = {0, 6, -1, 7, MIN, MAX};
        int[] negative = {-1, -2, MIN};
        for (IharaZeta x : all) {
            for (int length : wrong) {
                c.due("primeSign(" + length + ",0)", x.primeSign(length, 0), 0);
                c.due("primeSign(" + length + ",-1)", x.primeSign(length, -1), 0);
            }
            for (int length = 1; length <= 5; length++) {
                for (int index : negative) {
                    c.due("primeSign(" + length + "," + index + ")", x.primeSign(length, index), 0);
                }
                c.due("primeSign(" + length + ",primes)", x.primeSign(length, (int) x.primes(length)), 0);
                c.due("primeSign(" + length + ",MAX)", x.primeSign(length, MAX), 0);
            }
        }
        for (int n = 2; n <= 5; n++) {
            IharaZeta x = cycle(n);
            c.due("primeSign(" + n + ",0)", x.primeSign(n, 0), 1);
            c.due("primeSign(" + n + ",1)", x.primeSign(n, 1), 1);
            x.flipSign(n - 1);
            c.due("primeSign(" + n + ",0) with -1", x.primeSign(n, 0), -1);
            c.due("primeSign(" + n + ",1) with -1", x.primeSign(n, 1), -1);
            c.due("primeSign(" + n + ",2) with -1", x.primeSign(n, 2), 0);
        }
        IharaZeta theta = Graphs.read(2, "0~1;0-1;0-1;");
        c.due("primeSign(4,0) of 0 3 0 5: edge 0 counts twice", theta.primeSign(4, 0), 1);
        c.due("primeSign(4,1) of 0 3 4 3: edge 0 counts once", theta.primeSign(4, 1), -1);
        c.due("primeSign(2,71) of the last two edges", flippedLast().primeSign(2, 71), -1);
        c.due("primeSign(2,0) of the first two edges", flippedLast().primeSign(2, 0), 1);
    }

    private static IharaZeta flippedLast() {
        IharaZeta x = Graphs.bundle();
        x.flipSign(8);
        return x;
    }
}
