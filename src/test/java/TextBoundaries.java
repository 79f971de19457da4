/** The boundary cases of the section "Text" and of the promises 6 to 8, a test each. */
final class TextBoundaries {
    private static final int MIN = Integer.MIN_VALUE;
    private static final int MAX = Integer.MAX_VALUE;
    private static final String NINE = "0-1;1~0;0-1;1~0;0-1;1~0;0-1;1~0;0-1;";
    /** Nine edges in 60 characters: two spaces behind each edge but the last, and eight behind it. */
    private static final String FULL = NINE.replace(";", ";  ") + "      ";

    private TextBoundaries() {
    }

    static void run(Checks c) {
        characterRange(c);
        everyCharacterIsTaken(c);
        atMostSixtyCharacters(c);
        roomAfterClearing(c);
        clearedText(c);
        emptyText(c);
        noEdgesToNine(c);
        sixtyCharacters(c);
        errorAtBothEnds(c);
        everyCharacterAtEveryPlace(c);
        secondVertexEqualsTheFirst(c);
        tenthEdge(c);
        spacesEverywhere(c);
        endInsideAnEdge(c);
        firstErrorFromTheLeft(c);
        errorKeepsAll(c);
        presentEdgesDoNotCount(c);
        vertexCountStays(c);
        textIsNotOfTheGraph(c);
    }

    private static void characterRange(Checks c) {
        c.topic("promise 6: INVALID_ARGUMENT if character is out of range");
        int[] wrong = {-1, 256, -2, 257, -256, 256 + 48, MIN, MIN + 48, MAX};
        for (int length = 0; length <= 60; length += 20) {
            IharaZeta x = new IharaZeta();
            Graphs.write(x, " ".repeat(length));
            for (int character : wrong) {
                c.due("appendCharacter(" + character + ") behind " + length, x.appendCharacter(character), -1);
            }
            c.due("clearText()", x.clearText(), length);
        }
    }

    private static void everyCharacterIsTaken(Checks c) {
        c.topic("promise 6: character code, 0 to 255");
        for (int character = 0; character <= 255; character++) {
            IharaZeta x = new IharaZeta();
            c.due("appendCharacter(" + character + ")", x.appendCharacter(character), 1);
            c.due("appendCharacter(" + character + ") again", x.appendCharacter(character), 2);
            c.due("clearText()", x.clearText(), 2);
        }
    }

    private static void atMostSixtyCharacters(Checks c) {
        c.topic("promise 6: CAPACITY_EXCEEDED if the text has 60 characters");
        int[] characters = {0, 32, 48, 255};
        for (int character : characters) {
            IharaZeta x = new IharaZeta();
            for (int length = 1; length <= 60; length++) {
                c.due("appendCharacter(" + character + ")", x.appendCharacter(character), length);
            }
            c.due("the 61st character", x.appendCharacter(character), -3);
            c.due("the 62nd character", x.appendCharacter(32), -3);
            c.due("clearText()", x.clearText(), 60);
        }
    }

    private static void roomAfterClearing(Checks c) {
        c.topic("promise 6: the new length, after a full text");
        IharaZeta x = new IharaZeta();
        Graphs.write(x, FULL);
        c.due("appendCharacter(32)", x.appendCharacter(32), -3);
        c.due("clearText()", x.clearText(), 60);
        c.due("appendCharacter(32) to a cleared text", x.appendCharacter(32), 1);
        x.clearText();
        Graphs.write(x, FULL);
        c.due("appendCharacter(32)", x.appendCharacter(32), -3);
        c.due("loadGraph()", x.loadGraph(), 9);
        c.due("appendCharacter(32) to a text that was read", x.appendCharacter(32), 1);
    }

    private static void clearedText(Checks c) {
        c.topic("promise 7: the previous length of the text");
        for (int length = 0; length <= 60; length++) {
            IharaZeta x = new IharaZeta();
            Graphs.write(x, "x".repeat(length));
            c.due("clearText() of " + length, x.clearText(), length);
            c.due("clearText() of an empty text", x.clearText(), 0);
            c.due("loadGraph() of a cleared text", x.loadGraph(), 0);
        }
        IharaZeta x = Graphs.read(3, "0-1;1~2;");
        Graphs.write(x, "0-2;");
        x.clearText();
        c.due("edgeCount() after clearText()", x.edgeCount(), 2);
        c.due("undo() after clearText()", x.undo(), 1);
    }

    private static void emptyText(Checks c) {
        c.topic("Text: edges, perhaps none");
        for (int n = 1; n <= 6; n++) {
            IharaZeta x = Graphs.read(n, n > 1 ? NINE : "");
            c.due("loadGraph() of an empty text", x.loadGraph(), 0);
            c.due("edgeCount()", x.edgeCount(), 0);
            c.due("vertexCount()", x.vertexCount(), n);
            c.due("undo()", x.undo(), 2);
            c.due("edgeCount() after undo()", x.edgeCount(), n > 1 ? 9 : 0);
        }
        for (int length = 1; length <= 60; length++) {
            IharaZeta x = Graphs.read(2, NINE);
            Graphs.write(x, " ".repeat(length));
            c.due("loadGraph() of " + length + " spaces", x.loadGraph(), 0);
            c.due("edgeCount()", x.edgeCount(), 0);
            c.due("clearText()", x.clearText(), 0);
        }
    }

    private static void noEdgesToNine(Checks c) {
        c.topic("promise 8: the number of edges");
        for (int edges = 0; edges <= 9; edges++) {
            IharaZeta x = Graphs.read(2, "0-1;");
            Graphs.write(x, NINE.substring(0, 4 * edges));
            c.due("loadGraph() of " + edges, x.loadGraph(), edges);
            c.due("edgeCount()", x.edgeCount(), edges);
            c.due("clearText(): the text becomes empty", x.clearText(), 0);
            for (int edge = 0; edge < edges; edge++) {
                c.due("headOf(" + 2 * edge + ")", x.headOf(2 * edge), 1 - edge % 2);
                c.due("headOf(" + (2 * edge + 1) + ")", x.headOf(2 * edge + 1), edge % 2);
                c.due("flipSign(" + edge + ")", x.flipSign(edge), edge % 2 == 0 ? -1 : 1);
            }
        }
    }

    private static void sixtyCharacters(Checks c) {
        c.topic("Text: at most 60 characters");
        c.due("the length of the full text", FULL.length(), 60);
        error(c, 2, FULL, 0, 9);
        error(c, 2, " ".repeat(24) + NINE, 0, 9);
        error(c, 2, " ".repeat(56) + "1~0;", 0, 1);
        error(c, 2, " ".repeat(60), 0, 0);
        IharaZeta x = new IharaZeta();
        Graphs.write(x, " ".repeat(57) + "0-1;");
        c.due("loadGraph() of a text cut at 60", x.loadGraph(), -70);
        c.due("clearText()", x.clearText(), 60);
    }

    private static void errorAtBothEnds(Checks c) {
        c.topic("promise 8: -10 minus the error position");
        for (int position = 0; position < 60; position++) {
            error(c, 4, " ".repeat(position) + "x", -10 - position, 0);
            error(c, 4, " ".repeat(position) + "x" + " ".repeat(59 - position), -10 - position, 0);
            error(c, 4, " ".repeat(position) + "3", -11 - position, 0);
        }
    }

    /** The text before a place, and what may stand there, tried with all 256 characters. */
    private static void everyCharacterAtEveryPlace(Checks c) {
        c.topic("Text: a character that is not allowed where it stands");
        for (int n = 1; n <= 6; n++) {
            String vertices = "012345".substring(0, n);
            allCharacters(c, n, "", vertices);
            for (int v = 0; v < n; v++) {
                allCharacters(c, n, "" + v, "-~");
                allCharacters(c, n, v + "-", vertices.replace("" + v, ""));
                allCharacters(c, n, v + "~", vertices.replace("" + v, ""));
                allCharacters(c, n, v + " ~ ", vertices.replace("" + v, ""));
            }
            if (n > 1) {
                allCharacters(c, n, "0-1", ";");
                allCharacters(c, n, "1~0 ", ";");
                allCharacters(c, n, "0-1;", vertices);
                allCharacters(c, n, NINE.substring(4), vertices);
                allCharacters(c, n, NINE, "");
                allCharacters(c, n, NINE + " ", "");
            }
        }
    }

    private static void allCharacters(Checks c, int n, String before, String allowed) {
        int edges = before.length() - before.replace(";", "").length();
        boolean outside = before.isBlank() || before.trim().endsWith(";");
        for (char sign = 0; sign <= 255; sign++) {
            String text = before + sign;
            boolean ends = sign == ';' || (sign == ' ' && outside);
            if (sign != ' ' && allowed.indexOf(sign) < 0) {
                error(c, n, text, -10 - before.length(), 0);
            } else if (ends) {
                error(c, n, text, 0, edges + (sign == ';' ? 1 : 0));
            } else {
                error(c, n, text, -10 - text.length(), 0);
            }
        }
    }

    /** Reads a text: the code that is due, or the number of edges if the code is 0. */
    private static void error(Checks c, int n, String text, int code, int edges) {
        IharaZeta x = new IharaZeta();
        x.configure(n);
        Graphs.write(x, text);
        String call = "loadGraph() of \"" + text + "\", n = " + n;
        c.due(call, x.loadGraph(), code == 0 ? edges : code);
        c.due("clearText() after " + call, x.clearText(), code == 0 ? 0 : text.length());
        c.due("edgeCount() after " + call, x.edgeCount(), edges);
        c.due("undo() after " + call, x.undo(), code == 0 ? 1 : 0);
    }

    private static void secondVertexEqualsTheFirst(Checks c) {
        c.topic("Text: a second vertex that equals the first one");
        for (int n = 1; n <= 6; n++) {
            for (int v = 0; v < n; v++) {
                error(c, n, v + "-" + v + ";", -12, 0);
                error(c, n, v + " ~  " + v + ";", -15, 0);
                error(c, n, v + "-" + v, -12, 0);
            }
        }
        error(c, 6, "0-5;5~5;", -16, 0);
        error(c, 6, "0-5;5~0;", 0, 2);
    }

    private static void tenthEdge(Checks c) {
        c.topic("Text: the first vertex of a tenth edge");
        error(c, 2, NINE, 0, 9);
        error(c, 2, NINE + "0-1;", -46, 0);
        error(c, 2, NINE + "0", -46, 0);
        error(c, 2, NINE + "   1~0;", -49, 0);
        error(c, 6, FULL.substring(0, 59) + "5", -69, 0);
        error(c, 2, NINE.substring(4) + "0", -43, 0);
    }

    private static void spacesEverywhere(Checks c) {
        c.topic("Text: spaces are allowed everywhere");
        String text = "0-1;3~2;";
        for (int place = 0; place <= text.length(); place++) {
            error(c, 4, text.substring(0, place) + " " + text.substring(place), 0, 2);
            error(c, 4, text.substring(0, place) + " ".repeat(52) + text.substring(place), 0, 2);
        }
        error(c, 4, " 0 - 1 ; 3 ~ 2 ; ", 0, 2);
        IharaZeta x = Graphs.read(4, "   0   -   1   ;   3   ~   2   ;   ");
        c.due("headOf(0)", x.headOf(0), 1);
        c.due("headOf(2)", x.headOf(2), 2);
        c.due("flipSign(0)", x.flipSign(0), -1);
        c.due("flipSign(1)", x.flipSign(1), 1);
    }

    private static void endInsideAnEdge(Checks c) {
        c.topic("Text: the length of the text if the text ends inside an edge");
        String[] parts = {"0", "0-", "0~", "0-1", "0~1"};
        for (String part : parts) {
            for (int edges = 0; edges <= 8; edges++) {
                String text = NINE.substring(0, 4 * edges) + part;
                error(c, 2, text, -10 - text.length(), 0);
                error(c, 2, text + "   ", -13 - text.length(), 0);
            }
            String full = " ".repeat(60 - part.length()) + part;
            error(c, 2, full, -70, 0);
            error(c, 2, part + " ".repeat(60 - part.length()), -70, 0);
        }
    }

    private static void firstErrorFromTheLeft(Checks c) {
        c.topic("Text: the first character that is not allowed");
        error(c, 4, "0-0;4-1;x", -12, 0);
        error(c, 4, "4-0;0-0;", -10, 0);
        error(c, 4, "0x0;", -11, 0);
        error(c, 4, "0-1x", -13, 0);
        error(c, 4, "0-x", -12, 0);
        error(c, 4, "0-1;1-2;;2-3", -18, 0);
        error(c, 2, NINE + "x0", -46, 0);
        error(c, 2, NINE + "0-0", -46, 0);
    }

    private static void errorKeepsAll(Checks c) {
        c.topic("promise 8: then nothing changes, and the text is kept");
        IharaZeta x = Graphs.read(4, "2~3;");
        Graphs.write(x, "0-1;1-2");
        c.due("loadGraph()", x.loadGraph(), -17);
        c.due("loadGraph() again", x.loadGraph(), -17);
        c.due("edgeCount()", x.edgeCount(), 1);
        c.due("headOf(0)", x.headOf(0), 3);
        c.due("appendCharacter(59)", x.appendCharacter(59), 8);
        c.due("loadGraph() of the text that was kept", x.loadGraph(), 2);
        c.due("undo()", x.undo(), 2);
        c.due("headOf(0) after undo()", x.headOf(0), 3);
        c.due("flipSign(0) after undo()", x.flipSign(0), 1);
    }

    private static void presentEdgesDoNotCount(Checks c) {
        c.topic("promise 8: in place of the present ones");
        IharaZeta x = Graphs.read(2, NINE);
        Graphs.write(x, NINE);
        c.due("loadGraph() of nine in place of nine", x.loadGraph(), 9);
        c.due("edgeCount()", x.edgeCount(), 9);
        Graphs.write(x, "1~0;");
        c.due("loadGraph() of one in place of nine", x.loadGraph(), 1);
        c.due("edgeCount()", x.edgeCount(), 1);
        c.due("headOf(0)", x.headOf(0), 0);
        c.due("headOf(2)", x.headOf(2), -1);
        c.due("degree(0)", x.degree(0), 1);
    }

    private static void vertexCountStays(Checks c) {
        c.topic("promise 8: the number of vertices stays");
        for (int n = 2; n <= 6; n++) {
            IharaZeta x = Graphs.read(n, "0-1;");
            c.due("vertexCount() after loadGraph()", x.vertexCount(), n);
            c.due("degree(n - 1)", x.degree(n - 1), n == 2 ? 1 : 0);
            c.due("degree(n)", x.degree(n), -1);
        }
        IharaZeta shrunk = new IharaZeta();
        Graphs.write(shrunk, "0-3;");
        shrunk.configure(3);
        c.due("loadGraph() reads for the vertices of now", shrunk.loadGraph(), -12);
        shrunk.undo();
        c.due("loadGraph() with 4 vertices again", shrunk.loadGraph(), 1);
    }

    private static void textIsNotOfTheGraph(Checks c) {
        c.topic("Undo: a graph is saved, not the text");
        IharaZeta x = new IharaZeta();
        Graphs.write(x, "0-1;");
        c.due("loadGraph()", x.loadGraph(), 1);
        c.due("undo()", x.undo(), 0);
        c.due("clearText() after undo() of loadGraph()", x.clearText(), 0);
        Graphs.write(x, "0-1");
        x.configure(2);
        c.due("undo()", x.undo(), 0);
        c.due("clearText() after configure() and undo()", x.clearText(), 3);
        Graphs.write(x, "0-1");
        x.addEdge(0, 1, 1);
        x.flipSign(0);
        x.removeEdge(0);
        c.due("clearText() after changes of the graph", x.clearText(), 3);
    }
}
