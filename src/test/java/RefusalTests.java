/**
 * The section "Errors": a refused call, in several states of the object, answers the code that is
 * named first and changes nothing. What is left is compared with a twin that was not called so.
 */
final class RefusalTests {
    private static final int MIN = Integer.MIN_VALUE;
    private static final int MAX = Integer.MAX_VALUE;
    private static final long ILLEGAL = Long.MIN_VALUE;
    private static final int STATES = 7;

    /** Calls that are refused in every state: promise, arguments and answer. */
    private static final long[][] ALWAYS = {
        {2, 0, 0, 0, -1}, {2, 7, 0, 0, -1}, {2, -1, 0, 0, -1}, {2, MIN, 0, 0, -1}, {2, MAX, 0, 0, -1},
        {3, -1, 0, 1, -1}, {3, 0, -1, 1, -1}, {3, 6, 0, 1, -1}, {3, 0, 6, 1, -1}, {3, 0, 0, 1, -1},
        {3, 0, 1, 0, -1}, {3, 0, 1, 2, -1}, {3, 0, 1, -2, -1}, {3, 0, 1, MIN, -1}, {3, MIN, MAX, MIN, -1},
        {4, -1, 0, 0, -1}, {4, 9, 0, 0, -1}, {4, MIN, 0, 0, -1}, {4, MAX, 0, 0, -1},
        {5, -1, 0, 0, 0}, {5, 9, 0, 0, 0}, {5, MIN, 0, 0, 0}, {5, MAX, 0, 0, 0},
        {6, -1, 0, 0, -1}, {6, 256, 0, 0, -1}, {6, MIN, 0, 0, -1}, {6, MAX, 0, 0, -1},
        {12, -1, 0, 0, -1}, {12, 18, 0, 0, -1}, {13, -1, 0, 0, -1}, {13, 0, -1, 0, -1}, {13, 18, 0, 0, -1},
        {13, 0, 18, 0, -1}, {14, -1, 0, 0, -1}, {14, 6, 0, 0, -1},
        {18, 0, 0, 0, ILLEGAL}, {18, 19, 0, 0, ILLEGAL}, {19, 0, 0, 0, ILLEGAL}, {19, 19, 0, 0, ILLEGAL},
        {20, 0, 0, 0, ILLEGAL}, {20, 19, 0, 0, ILLEGAL}, {21, 0, 0, 0, ILLEGAL}, {21, 19, 0, 0, ILLEGAL},
        {22, 0, 0, 0, ILLEGAL}, {22, 19, 0, 0, ILLEGAL},
        {25, 0, 0, 0, -1}, {25, 6, 0, 0, -1}, {25, 2, -1, 0, -1}, {25, 2, 0, 2, -1}, {25, 2, 0, -1, -1},
        {25, 2, MAX, 2, -1}, {25, 6, MAX, 0, -1}, {25, 2, MAX, 0, -9}, {25, 1, 0, 0, -9}, {25, 5, MAX, 4, -9},
        {26, 0, 0, 0, 0}, {26, 6, 0, 0, 0}, {26, 2, -1, 0, 0}, {26, 2, MAX, 0, 0}, {26, 1, 0, 0, 0},
        {27, -1, 0, 0, ILLEGAL}, {27, 19, 0, 0, ILLEGAL}, {28, -1, 0, 0, ILLEGAL}, {28, 19, 0, 0, ILLEGAL},
        {29, -1, 0, 0, ILLEGAL}, {29, 13, 0, 0, ILLEGAL}, {30, -1, 0, 0, ILLEGAL}, {30, 19, 0, 0, ILLEGAL},
        {31, -1, 0, 0, ILLEGAL}, {31, 13, 0, 0, ILLEGAL}, {32, -3, 0, 0, ILLEGAL}, {32, 3, 0, 0, ILLEGAL},
        {33, -1, 0, 0, ILLEGAL}, {33, 19, 0, 0, ILLEGAL}};

    private RefusalTests() {
    }

    static void run(Checks c) {
        c.topic("Errors: a method that returns an error code changes nothing");
        for (int state = 0; state < STATES; state++) {
            for (long[] call : ALWAYS) {
                refuse(c, state, call);
            }
            refuse(c, state, new long[] {4, build(state).edgeCount(), 0, 0, -1});
            refuse(c, state, new long[] {5, build(state).edgeCount(), 0, 0, 0});
            refuse(c, state, new long[] {12, 2 * build(state).edgeCount(), 0, 0, -1});
            refuse(c, state, new long[] {14, build(state).vertexCount(), 0, 0, -1});
        }
        refusedBecauseOfTheState(c);
        queriesChangeNothing(c);
        questionsInAnyOrder(c);
        firstCodeCounts(c);
        noneIsNoError(c);
    }

    /** Without anything; usual; full graph, text and saves; one vertex; a broken text; an unfinished one; one saved. */
    private static IharaZeta build(int state) {
        switch (state) {
            case 0:
                return new IharaZeta();
            case 1:
                return written(Graphs.read(5, "0-1;1~2;2-0;2~3;0~1;"), "0-1;3~2;");
            case 2:
                return written(saves(Graphs.read(6, "0-1;1~2;2-0;2~3;0~1;3-4;4-5;5~3;")), "0~5;" + " ".repeat(56));
            case 3:
                return written(Graphs.readUnsaved(1, ""), "  ");
            case 4:
                return written(Graphs.read(4, "0-1;1~2;2-0;"), "0-1;0-0;");
            case 5:
                return written(Graphs.readUnsaved(2, "0-1;0~1;0-1;0~1;0-1;0~1;0-1;0~1;0-1;"), " ".repeat(57) + "0-1");
            default:
                IharaZeta x = written(Graphs.readUnsaved(3, "2-1;1~0;"), "");
                x.addEdge(0, 2, -1);
                return x;
        }
    }

    private static IharaZeta written(IharaZeta x, String text) {
        Graphs.write(x, text);
        return x;
    }

    /** Eight changes, each with another graph, and a ninth edge at the end. */
    private static IharaZeta saves(IharaZeta x) {
        for (int edge = 0; edge < 7; edge++) {
            x.flipSign(edge);
        }
        x.addEdge(0, 5, -1);
        return x;
    }

    private static void refuse(Checks c, int state, long[] call) {
        String name = "promise " + call[0] + " (" + call[1] + "," + call[2] + "," + call[3] + ") in state " + state;
        for (int end = 0; end < 3; end++) {
            IharaZeta x = build(state);
            long got = Calls.answer(x, (int) call[0], (int) call[1], (int) call[2], (int) call[3]);
            c.due(name, got, call[4]);
            c.holds("all is as before after " + name, story(x, end).equals(story(build(state), end)));
        }
    }

    /** All that can be learned of an object, by three ways on, each of which uses it up. */
    private static String story(IharaZeta x, int end) {
        StringBuilder all = new StringBuilder(Graphs.portrait(x));
        if (end == 0) {
            all.append(" text ").append(x.clearText());
        } else if (end == 1) {
            all.append(" read ").append(x.loadGraph()).append(' ').append(x.edgeCount()).append(' ').append(x.headOf(0));
            all.append(" undo ").append(x.undo());
        } else {
            all.append(" more ").append(x.appendCharacter(';')).append(' ').append(x.loadGraph());
            all.append(" undo ").append(x.undo());
        }
        for (int round = 0; round < 9; round++) {
            all.append(" undo ").append(x.undo()).append(' ').append(x.vertexCount()).append(' ').append(x.edgeCount());
            all.append(' ').append(x.signedWalks(2)).append(' ').append(x.signedWalks(3)).append(' ').append(x.headOf(16));
        }
        for (int edge = 0; edge < 9; edge++) {
            all.append(" sign ").append(x.flipSign(edge));
        }
        return all.toString();
    }

    private static void refusedBecauseOfTheState(Checks c) {
        c.topic("Errors: calls that the state refuses change nothing");
        refuse(c, 0, new long[] {9, 0, 0, 0, -2});
        refuse(c, 3, new long[] {9, 0, 0, 0, -2});
        refuse(c, 5, new long[] {9, 0, 0, 0, -2});
        refuse(c, 2, new long[] {3, 0, 1, 1, -3});
        refuse(c, 2, new long[] {3, 5, 0, -1, -3});
        refuse(c, 5, new long[] {3, 1, 0, 1, -3});
        refuse(c, 2, new long[] {6, 32, 0, 0, -3});
        refuse(c, 2, new long[] {6, 0, 0, 0, -3});
        refuse(c, 5, new long[] {6, 255, 0, 0, -3});
        refuse(c, 4, new long[] {8, 0, 0, 0, -16});
        refuse(c, 5, new long[] {8, 0, 0, 0, -70});
        refuse(c, 0, new long[] {23, 0, 0, 0, -9});
        refuse(c, 3, new long[] {23, 0, 0, 0, -9});
        refuse(c, 0, new long[] {24, 0, 0, 0, -9});
        refuse(c, 3, new long[] {24, 0, 0, 0, -9});
        refuse(c, 3, new long[] {3, 0, 0, 1, -1});
        refuse(c, 3, new long[] {3, 0, 1, 1, -1});
    }

    private static void queriesChangeNothing(Checks c) {
        c.topic("a question changes nothing");
        for (int state = 0; state < STATES; state++) {
            for (int promise = 10; promise <= 35; promise++) {
                for (int end = 0; end < 3; end++) {
                    IharaZeta x = build(state);
                    Calls.answer(x, promise, 2, 0, 0);
                    Calls.answer(x, promise, 1, 1, 1);
                    c.holds("all is as before after promise " + promise + " in state " + state,
                        story(x, end).equals(story(build(state), end)));
                }
            }
        }
    }

    /** Whatever was asked before, of this graph or of another one, an answer is that of a new object. */
    private static void questionsInAnyOrder(Checks c) {
        c.topic("a question does not change the answers to other ones");
        int[] arguments = {0, 1, 2, 3, 6, 7, 12, 18};
        for (int before = 10; before <= 35; before++) {
            IharaZeta x = Graphs.bundle();
            for (int argument : arguments) {
                Calls.answer(x, before, argument, 0, 0);
            }
            x.undo();
            Graphs.write(x, "0-1;0~1;1-0;");
            x.loadGraph();
            for (int prior : arguments) {
                for (int after = 10; after <= 35; after++) {
                    Calls.answer(x, before, prior, 0, 0);
                    askBoth(c, x, after, 2);
                    Calls.answer(x, before, prior, 0, 0);
                    askBoth(c, x, after, 3);
                    Calls.answer(x, before, prior, 0, 0);
                    askBoth(c, x, after, 12);
                }
            }
        }
    }

    private static void askBoth(Checks c, IharaZeta x, int promise, int argument) {
        c.due("promise " + promise + " (" + argument + ") behind another one", Calls.answer(x, promise, argument, 0, 0),
            Calls.answer(Graphs.read(2, "0-1;0~1;1-0;"), promise, argument, 0, 0));
    }

    private static void firstCodeCounts(Checks c) {
        c.topic("Errors: if several codes apply, the one that is named first");
        int[] full = {2, 5};
        for (int state : full) {
            IharaZeta x = build(state);
            int n = x.vertexCount();
            int[][] wrong = {{-1, 0, 1}, {0, -1, 1}, {n, 0, 1}, {0, n, 1}, {0, 0, 1}, {0, 1, 0}, {0, 1, 2}, {0, 1, -2},
                {MIN, MIN, MIN}, {MAX, MAX, MAX}};
            for (int[] edge : wrong) {
                c.due("addEdge(" + edge[0] + "," + edge[1] + "," + edge[2] + ") to nine edges",
                    x.addEdge(edge[0], edge[1], edge[2]), -1);
            }
            int[] characters = {-1, 256, MIN, MAX};
            for (int character : characters) {
                c.due("appendCharacter(" + character + ") to 60", x.appendCharacter(character), -1);
            }
            c.due("addEdge(0,1,1) to nine edges", x.addEdge(0, 1, 1), -3);
            c.due("appendCharacter(48) to 60", x.appendCharacter(48), -3);
        }
    }

    private static void noneIsNoError(Checks c) {
        c.topic("Errors: NONE is returned only if no error code applies");
        for (int state = 0; state < STATES; state++) {
            IharaZeta x = build(state);
            for (int length = 1; length <= 5; length++) {
                c.due("primeEdge(" + length + ",MAX,0)", x.primeEdge(length, MAX, 0), -9);
                c.due("primeEdge(" + length + ",MAX,last)", x.primeEdge(length, MAX, length - 1), -9);
                c.due("primeEdge(" + length + ",MAX,length)", x.primeEdge(length, MAX, length), -1);
                c.due("primeEdge(" + length + ",MAX,-1)", x.primeEdge(length, MAX, -1), -1);
                c.due("primeEdge(" + length + ",-1,0)", x.primeEdge(length, -1, 0), -1);
            }
            c.due("primeEdge(6,MAX,0)", x.primeEdge(6, MAX, 0), -1);
            c.due("primeEdge(0,MAX,0)", x.primeEdge(0, MAX, 0), -1);
        }
    }
}
