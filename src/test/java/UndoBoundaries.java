import java.util.ArrayList;
import java.util.List;

/** The boundary cases of the section "Undo", of promise 9 and of the 512 calls, a test each. */
final class UndoBoundaries {
    private UndoBoundaries() {
    }

    static void run(Checks c) {
        noneSaved(c);
        eachChangeSaves(c);
        changesThatLeaveAllAsItWas(c);
        otherCallsSaveNothing(c);
        oneToEightSaved(c);
        ninthDiscardsTheOldest(c);
        savesAndUndosInTurn(c);
        undoSavesNothing(c);
        savedGraphsStayAsTheyWere(c);
        lastOfManyCalls(c);
    }

    private static void noneSaved(Checks c) {
        c.topic("promise 9: ILLEGAL_STATE if none is saved");
        IharaZeta x = new IharaZeta();
        c.due("undo() of a new object", x.undo(), -2);
        c.due("undo() again", x.undo(), -2);
        c.due("vertexCount()", x.vertexCount(), 4);
        c.due("addEdge(0,1,1)", x.addEdge(0, 1, 1), 0);
        c.due("undo()", x.undo(), 0);
        c.due("undo() when all are restored", x.undo(), -2);
        c.due("undo() again when all are restored", x.undo(), -2);
        c.due("edgeCount()", x.edgeCount(), 0);
        c.due("vertexCount()", x.vertexCount(), 4);
        c.due("addEdge(0,1,1) after refused undos", x.addEdge(0, 1, 1), 0);
        c.due("undo()", x.undo(), 0);
    }

    /** The edges 0~1 and 3-0 among 4 vertices, a text of one edge, and no saved graph. */
    private static IharaZeta twoEdges() {
        IharaZeta x = Graphs.readUnsaved(4, "0~1;3-0;");
        Graphs.write(x, "1-3;");
        return x;
    }

    private static void eachChangeSaves(Checks c) {
        c.topic("Undo: every successful call saves the graph that preceded it");
        int[][] changes = {{2, 2, 0, 0}, {2, 4, 0, 0}, {3, 1, 2, -1}, {4, 0, 0, 0}, {4, 1, 0, 0}, {5, 0, 0, 0},
            {5, 1, 0, 0}, {8, 0, 0, 0}};
        int[] answers = {4, 4, 2, 1, 1, 1, -1, 1};
        for (int i = 0; i < changes.length; i++) {
            int[] change = changes[i];
            IharaZeta x = twoEdges();
            String before = Graphs.portrait(x);
            String call = "promise " + change[0] + " (" + change[1] + ",..)";
            c.due(call, Calls.answer(x, change[0], change[1], change[2], change[3]), answers[i]);
            c.due("undo() after " + call, x.undo(), 0);
            c.holds("the graph that preceded " + call, before.equals(Graphs.portrait(x)));
            c.due("undo() again after " + call, x.undo(), -2);
            c.due("flipSign(0) after undo of " + call, x.flipSign(0), 1);
            c.due("flipSign(1) after undo of " + call, x.flipSign(1), -1);
        }
    }

    private static void changesThatLeaveAllAsItWas(Checks c) {
        c.topic("Undo: a successful call saves, even if the graph is what it was");
        IharaZeta x = new IharaZeta();
        c.due("configure(4)", x.configure(4), 4);
        c.due("undo() after configure(4)", x.undo(), 0);
        c.due("loadGraph() of an empty text", x.loadGraph(), 0);
        c.due("undo() after loadGraph()", x.undo(), 0);
        x.configure(1);
        c.due("configure(1)", x.configure(1), 1);
        c.due("loadGraph()", x.loadGraph(), 0);
        c.due("undo() after three", x.undo(), 2);
    }

    private static void otherCallsSaveNothing(Checks c) {
        c.topic("Undo: other calls save nothing");
        IharaZeta x = twoEdges();
        x.appendCharacter(48);
        x.clearText();
        for (int promise = 10; promise <= 35; promise++) {
            Calls.answer(x, promise, 1, 0, 0);
            Calls.answer(x, promise, 2, 1, 1);
            Calls.answer(x, promise, -1, -1, -1);
        }
        c.due("undo() after the text and all queries", x.undo(), -2);
        for (int promise = 10; promise <= 35; promise++) {
            IharaZeta y = twoEdges();
            Calls.answer(y, promise, 2, 0, 0);
            c.due("undo() after promise " + promise, y.undo(), -2);
        }
    }

    private static void oneToEightSaved(Checks c) {
        c.topic("promise 9: how many graphs are still saved");
        for (int saved = 1; saved <= 8; saved++) {
            IharaZeta x = new IharaZeta();
            for (int edge = 0; edge < saved; edge++) {
                x.addEdge(0, 1, 1);
            }
            for (int left = saved - 1; left >= 0; left--) {
                c.due("undo() of " + saved, x.undo(), left);
                c.due("edgeCount()", x.edgeCount(), left);
            }
            c.due("undo() after all " + saved, x.undo(), -2);
            c.due("edgeCount()", x.edgeCount(), 0);
        }
    }

    private static void ninthDiscardsTheOldest(Checks c) {
        c.topic("Undo: when a ninth is saved, the oldest one is discarded");
        for (int saved = 9; saved <= 27; saved++) {
            IharaZeta x = new IharaZeta();
            for (int change = 0; change < saved; change++) {
                c.due("configure number " + change, x.configure((change + 5) % 6 + 1), change == 0 ? 4 : (change + 4) % 6 + 1);
            }
            for (int left = 7; left >= 0; left--) {
                int last = saved - 8 + left - 1;
                c.due("undo() of " + saved, x.undo(), left);
                c.due("vertexCount()", x.vertexCount(), (last + 5) % 6 + 1);
            }
            c.due("undo() after eight", x.undo(), -2);
            c.due("vertexCount()", x.vertexCount(), (saved - 9 + 5) % 6 + 1);
        }
    }

    /** Some changes, some undos, some changes again, and undos to the end, beside a plain list. */
    private static void savesAndUndosInTurn(Checks c) {
        c.topic("Undo: at most 8 are saved, also after undos");
        for (int changes = 1; changes <= 20; changes++) {
            for (int undos = 0; undos <= 9; undos++) {
                IharaZeta x = new IharaZeta();
                List<String> saved = new ArrayList<>();
                change(x, saved, changes, 0);
                undo(c, x, saved, undos);
                change(x, saved, changes % 7 + 1, changes);
                undo(c, x, saved, 10);
            }
        }
    }

    private static void change(IharaZeta x, List<String> saved, int times, int from) {
        for (int i = from; i < from + times; i++) {
            String before = label(x);
            if (succeeds(x, i)) {
                saved.add(before);
            }
            if (saved.size() > 8) {
                saved.remove(0);
            }
        }
    }

    private static boolean succeeds(IharaZeta x, int i) {
        switch (i % 7) {
            case 0: return x.configure(2 + i / 7) > 0;
            case 3: return x.flipSign(0) != 0;
            case 5: return x.removeEdge(0) >= 0;
            case 6: Graphs.write(x, "1~0;0-1;"); return x.loadGraph() >= 0;
            default: return x.addEdge(i % 2, 1 - i % 2, i % 3 == 0 ? -1 : 1) >= 0;
        }
    }

    private static void undo(Checks c, IharaZeta x, List<String> saved, int times) {
        for (int i = 0; i < times; i++) {
            String due = label(x);
            int left = saved.size() - 1;
            if (left >= 0) {
                due = saved.remove(left);
            }
            c.due("undo()", x.undo(), left >= 0 ? left : -2);
            c.holds("the graph is " + due, due.equals(label(x)));
        }
    }

    private static String label(IharaZeta x) {
        StringBuilder all = new StringBuilder();
        all.append(x.vertexCount()).append(' ').append(x.edgeCount());
        for (int directed = 0; directed < 18; directed++) {
            all.append(' ').append(x.headOf(directed));
        }
        return all.append(' ').append(x.signedWalks(2)).append(' ').append(x.primeSign(2, 0)).toString();
    }

    private static void undoSavesNothing(Checks c) {
        c.topic("Undo: undo() restores the most recently saved graph and discards it");
        IharaZeta x = Graphs.readUnsaved(4, "0~1;");
        x.addEdge(1, 2, 1);
        x.addEdge(2, 3, 1);
        c.due("undo()", x.undo(), 1);
        c.due("edgeCount()", x.edgeCount(), 2);
        c.due("undo()", x.undo(), 0);
        c.due("edgeCount()", x.edgeCount(), 1);
        c.due("undo()", x.undo(), -2);
        c.due("edgeCount()", x.edgeCount(), 1);
    }

    private static void savedGraphsStayAsTheyWere(Checks c) {
        c.topic("Undo: a saved graph does not change with the present one");
        IharaZeta x = Graphs.readUnsaved(3, "0-1;1-2;2-0;");
        x.flipSign(0);
        x.removeEdge(1);
        x.addEdge(2, 1, -1);
        x.flipSign(1);
        c.due("undo()", x.undo(), 3);
        c.due("headOf(2)", x.headOf(2), 0);
        c.due("headOf(4)", x.headOf(4), 1);
        c.due("primeSign(3,0): -1, 1 and -1", x.primeSign(3, 0), 1);
        c.due("undo()", x.undo(), 2);
        c.due("undo()", x.undo(), 1);
        c.due("headOf(2)", x.headOf(2), 2);
        c.due("primeSign(3,0): -1, 1 and 1", x.primeSign(3, 0), -1);
        c.due("undo()", x.undo(), 0);
        c.due("primeSign(3,0): 1, 1 and 1", x.primeSign(3, 0), 1);
        // restored graphs are copies, too: the saved place is filled again
        x.configure(6);
        c.due("undo()", x.undo(), 0);
        c.due("vertexCount()", x.vertexCount(), 3);
        c.due("primeSign(3,1)", x.primeSign(3, 1), 1);
    }

    private static void lastOfManyCalls(Checks c) {
        c.topic("an object is used for at most 512 calls");
        IharaZeta x = new IharaZeta();
        c.due("call 1, addEdge(0,1,1)", x.addEdge(0, 1, 1), 0);
        for (int call = 2; call <= 503; call++) {
            c.due("call " + call + ", flipSign(0)", x.flipSign(0), call % 2 == 0 ? -1 : 1);
        }
        for (int left = 7; left >= 0; left--) {
            c.due("undo()", x.undo(), left);
        }
        c.due("call 512, undo()", x.undo(), -2);
        IharaZeta y = new IharaZeta();
        for (int call = 1; call <= 502; call++) {
            y.appendCharacter(call % 256);
        }
        for (int edge = 0; edge < 9; edge++) {
            c.due("addEdge(0,1,1)", y.addEdge(0, 1, 1), edge);
        }
        c.due("call 512, coverWalks(18)", y.coverWalks(18), 4 * (1L << 54) + 32);
    }
}
