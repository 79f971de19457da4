import java.util.Arrays;

/**
 * A calculator for the Ihara zeta function of a small multigraph with signed edges.
 *
 * Every answer is worked out anew from the present graph, in rows that the constructor makes;
 * no call makes an object.
 */
public final class IharaZeta {
    public static final int INVALID_ARGUMENT = -1;
    public static final int ILLEGAL_STATE = -2;
    public static final int CAPACITY_EXCEEDED = -3;
    public static final int NONE = -9;
    public static final long ILLEGAL = Long.MIN_VALUE;

    private static final int FIRST_VERTICES = 4;
    private static final int MAX_VERTICES = 6;
    private static final int MAX_EDGES = 9;
    private static final int MAX_DIRECTED = 18;
    private static final int MAX_SAVED = 8;
    private static final int MAX_TEXT = 60;
    private static final int MAX_CHARACTER = 255;
    private static final int MAX_LENGTH = 18;
    private static final int MAX_PRIME_LENGTH = 5;
    private static final int MAX_DEGREE = 18;
    private static final int MAX_VERTEX_DEGREE = 12;
    private static final int MAX_ZETA_DEGREE = 12;
    private static final int MAX_PLACE = 2;
    private static final int COLUMN_SETS = 64;
    private static final int NO_ERROR = -1;
    private static final int ERROR_BASE = -10;

    private final Graph graph;
    private final Graph draft;
    private final History history;
    private final EdgeText text;
    private final Grouping grouping;
    private final WalkCounter counter;
    private final PrimeSearch search;
    private final EdgePolynomial edgePolynomial;
    private final VertexPolynomial vertexPolynomial;

    /** A graph with 4 vertices and no edges, and an empty text. */
    public IharaZeta() {
        graph = new Graph();
        draft = new Graph();
        history = new History();
        text = new EdgeText();
        grouping = new Grouping();
        counter = new WalkCounter();
        search = new PrimeSearch();
        edgePolynomial = new EdgePolynomial();
        vertexPolynomial = new VertexPolynomial();
    }

    // ---- graph

    /** Makes a new graph without edges; returns the previous number of vertices. */
    public int configure(int vertices) {
        if (vertices < 1 || vertices > MAX_VERTICES) {
            return INVALID_ARGUMENT;
        }
        int previous = graph.vertices;
        history.save(graph);
        graph.makeEmpty(vertices);
        return previous;
    }

    /** Adds an edge; returns its number. */
    public int addEdge(int a, int b, int sign) {
        if (!graph.hasVertex(a) || !graph.hasVertex(b) || a == b) {
            return INVALID_ARGUMENT;
        }
        if (sign != 1 && sign != -1) {
            return INVALID_ARGUMENT;
        }
        if (graph.isFull()) {
            return CAPACITY_EXCEEDED;
        }
        history.save(graph);
        graph.append(a, b, sign);
        return graph.edges - 1;
    }

    /** Removes an edge; returns the number of edges then. */
    public int removeEdge(int edge) {
        if (!graph.hasEdge(edge)) {
            return INVALID_ARGUMENT;
        }
        history.save(graph);
        graph.delete(edge);
        return graph.edges;
    }

    /** Changes the sign of an edge; returns the new sign, or 0 if there is no such edge. */
    public int flipSign(int edge) {
        if (!graph.hasEdge(edge)) {
            return 0;
        }
        history.save(graph);
        graph.signs[edge] = -graph.signs[edge];
        return graph.signs[edge];
    }

    /** Appends a character to the text; returns the new length. */
    public int appendCharacter(int character) {
        if (character < 0 || character > MAX_CHARACTER) {
            return INVALID_ARGUMENT;
        }
        if (text.length >= MAX_TEXT) {
            return CAPACITY_EXCEEDED;
        }
        text.append(character);
        return text.length;
    }

    /** Makes the text empty; returns its previous length. */
    public int clearText() {
        int previous = text.length;
        text.length = 0;
        return previous;
    }

    /** Reads the text as the edges of the graph; returns their number, or -10 minus the error position. */
    public int loadGraph() {
        draft.makeEmpty(graph.vertices);
        int error = text.readInto(draft);
        if (error != NO_ERROR) {
            return ERROR_BASE - error;
        }
        history.save(graph);
        graph.copyFrom(draft);
        text.length = 0;
        return graph.edges;
    }

    /** Restores the most recently saved graph; returns how many are still saved. */
    public int undo() {
        if (history.count == 0) {
            return ILLEGAL_STATE;
        }
        history.restore(graph);
        return history.count;
    }

    // ---- properties of the graph

    /** Returns the number of vertices. */
    public int vertexCount() {
        return graph.vertices;
    }

    /** Returns the number of edges. */
    public int edgeCount() {
        return graph.edges;
    }

    /** Returns the vertex in which a directed edge ends. */
    public int headOf(int directed) {
        if (!graph.hasDirected(directed)) {
            return INVALID_ARGUMENT;
        }
        return graph.endOf(directed);
    }

    /** Returns 1 if the directed edge f follows e, otherwise 0. */
    public int follows(int e, int f) {
        if (!graph.hasDirected(e) || !graph.hasDirected(f)) {
            return INVALID_ARGUMENT;
        }
        return graph.leadsOn(e, f) ? 1 : 0;
    }

    /** Returns the number of edges that have a vertex as an end. */
    public int degree(int vertex) {
        if (!graph.hasVertex(vertex)) {
            return INVALID_ARGUMENT;
        }
        return graph.edgesAt(vertex);
    }

    /** Returns the number of connected components. */
    public int components() {
        return grouping.countGroups(graph);
    }

    /** Returns E minus n plus the number of components. */
    public int rank() {
        return graph.edges - graph.vertices + grouping.countGroups(graph);
    }

    /** Returns 1 if the signs are balanced, otherwise 0. */
    public int isBalanced() {
        return grouping.canDivide(graph) ? 1 : 0;
    }

    // ---- walks and primes

    /** Counts the closed walks of a length. */
    public long walks(int length) {
        if (!isWalkLength(length)) {
            return ILLEGAL;
        }
        counter.countClosed(graph);
        return counter.closed[length];
    }

    /** Returns the sum of the signs of all closed walks of a length. */
    public long signedWalks(int length) {
        if (!isWalkLength(length)) {
            return ILLEGAL;
        }
        counter.countClosedSigned(graph);
        return counter.closedSigned[length];
    }

    /** Counts the closed walks of a length in the double cover. */
    public long coverWalks(int length) {
        if (!isWalkLength(length)) {
            return ILLEGAL;
        }
        counter.countClosed(graph);
        counter.countClosedSigned(graph);
        return counter.closed[length] + counter.closedSigned[length];
    }

    /** Counts the primes of a length. */
    public long primes(int length) {
        if (!isWalkLength(length)) {
            return ILLEGAL;
        }
        counter.countPrimitive(graph);
        return counter.primitive[length] / length;
    }

    /** Counts the primes of a length that have the sign 1. */
    public long positivePrimes(int length) {
        if (!isWalkLength(length)) {
            return ILLEGAL;
        }
        counter.countPrimitiveSigned(graph);
        long positive = (counter.primitive[length] + counter.primitiveSigned[length]) / 2;
        return positive / length;
    }

    /** Returns the length of the shortest primes. */
    public int girth() {
        counter.countPrimitive(graph);
        for (int length = 1; length <= MAX_LENGTH; length++) {
            if (counter.primitive[length] != 0) {
                return length;
            }
        }
        return NONE;
    }

    /** Returns the greatest common divisor of the lengths of the primes. */
    public int period() {
        counter.countPrimitive(graph);
        int divisor = 0;
        for (int length = 1; length <= MAX_LENGTH; length++) {
            if (counter.primitive[length] != 0) {
                divisor = commonDivisor(length, divisor);
            }
        }
        return divisor == 0 ? NONE : divisor;
    }

    /** Returns a directed edge of the representative of a prime. */
    public int primeEdge(int length, int index, int position) {
        if (!isPrimeLength(length) || index < 0 || position < 0 || position >= length) {
            return INVALID_ARGUMENT;
        }
        if (!search.find(graph, length, index)) {
            return NONE;
        }
        return search.word[position];
    }

    /** Returns the sign of a prime, or 0 if there is no such prime. */
    public int primeSign(int length, int index) {
        if (!isPrimeLength(length) || index < 0) {
            return 0;
        }
        if (!search.find(graph, length, index)) {
            return 0;
        }
        return search.signOfWord(graph, length);
    }

    // ---- polynomials

    /** Returns a coefficient of the edge polynomial. */
    public long edgeCoefficient(int k) {
        if (!isIndex(k, MAX_DEGREE)) {
            return ILLEGAL;
        }
        makeEdgePolynomial();
        return edgePolynomial.coefficients[k];
    }

    /** Returns a coefficient of the signed edge polynomial. */
    public long signedCoefficient(int k) {
        if (!isIndex(k, MAX_DEGREE)) {
            return ILLEGAL;
        }
        counter.countClosedSigned(graph);
        edgePolynomial.makeFrom(counter.closedSigned);
        return edgePolynomial.coefficients[k];
    }

    /** Returns a coefficient of the vertex polynomial. */
    public long vertexCoefficient(int k) {
        if (!isIndex(k, MAX_VERTEX_DEGREE)) {
            return ILLEGAL;
        }
        vertexPolynomial.makeFrom(graph);
        return vertexPolynomial.coefficients[k];
    }

    /** Returns a coefficient of the Bass polynomial. */
    public long bassCoefficient(int k) {
        if (!isIndex(k, MAX_DEGREE)) {
            return ILLEGAL;
        }
        vertexPolynomial.makeFrom(graph);
        vertexPolynomial.turnIntoBass(graph.edges - graph.vertices);
        return vertexPolynomial.coefficients[k];
    }

    /** Returns a coefficient of the power series 1 / (edge polynomial). */
    public long zetaCoefficient(int k) {
        if (!isIndex(k, MAX_ZETA_DEGREE)) {
            return ILLEGAL;
        }
        makeEdgePolynomial();
        return edgePolynomial.inverseCoefficient(k);
    }

    /** Returns the value of the edge polynomial at a place. */
    public long edgeValue(int u) {
        if (u < -MAX_PLACE || u > MAX_PLACE) {
            return ILLEGAL;
        }
        makeEdgePolynomial();
        return edgePolynomial.valueAt(u);
    }

    /** Returns the coefficient of (u - 1)^k in the edge polynomial. */
    public long taylorAtOne(int k) {
        if (!isIndex(k, MAX_DEGREE)) {
            return ILLEGAL;
        }
        makeEdgePolynomial();
        return edgePolynomial.coefficientAroundOne(k);
    }

    /** Returns the degree of the edge polynomial. */
    public int edgeDegree() {
        makeEdgePolynomial();
        return edgePolynomial.highestPower();
    }

    /** Counts the spanning trees of the graph. */
    public int spanningTrees() {
        return grouping.countTrees(graph);
    }

    // ---- helpers

    private void makeEdgePolynomial() {
        counter.countClosed(graph);
        edgePolynomial.makeFrom(counter.closed);
    }

    private static boolean isWalkLength(int length) {
        return length >= 1 && length <= MAX_LENGTH;
    }

    private static boolean isPrimeLength(int length) {
        return length >= 1 && length <= MAX_PRIME_LENGTH;
    }

    private static boolean isIndex(int k, int greatest) {
        return k >= 0 && k <= greatest;
    }

    /** The greatest common divisor of a and b, where a is 1 or more and 0 counts as divisible by all. */
    private static int commonDivisor(int a, int b) {
        for (int divisor = a; divisor > 1; divisor--) {
            if (a % divisor == 0 && b % divisor == 0) {
                return divisor;
            }
        }
        return 1;
    }

    /** The vertices, and the edges in the order of their numbers. */
    private static final class Graph {
        private int vertices = FIRST_VERTICES;
        private int edges = 0;
        private final int[] firsts = new int[MAX_EDGES];
        private final int[] seconds = new int[MAX_EDGES];
        private final int[] signs = new int[MAX_EDGES];

        void makeEmpty(int newVertices) {
            vertices = newVertices;
            edges = 0;
        }

        void copyFrom(Graph other) {
            vertices = other.vertices;
            edges = other.edges;
            for (int edge = 0; edge < MAX_EDGES; edge++) {
                firsts[edge] = other.firsts[edge];
                seconds[edge] = other.seconds[edge];
                signs[edge] = other.signs[edge];
            }
        }

        boolean isFull() {
            return edges >= MAX_EDGES;
        }

        boolean hasVertex(int vertex) {
            return vertex >= 0 && vertex < vertices;
        }

        boolean hasEdge(int edge) {
            return edge >= 0 && edge < edges;
        }

        boolean hasDirected(int directed) {
            return directed >= 0 && directed < 2 * edges;
        }

        void append(int a, int b, int sign) {
            if (isFull()) {
                return;
            }
            firsts[edges] = a;
            seconds[edges] = b;
            signs[edges] = sign;
            edges++;
        }

        void delete(int edge) {
            for (int to = edge; to < edges - 1; to++) {
                firsts[to] = firsts[to + 1];
                seconds[to] = seconds[to + 1];
                signs[to] = signs[to + 1];
            }
            edges--;
        }

        int startOf(int directed) {
            return directed % 2 == 0 ? firsts[directed / 2] : seconds[directed / 2];
        }

        int endOf(int directed) {
            return directed % 2 == 0 ? seconds[directed / 2] : firsts[directed / 2];
        }

        /** Whether the directed edge f follows e; the inverse differs in the last bit alone. */
        boolean leadsOn(int e, int f) {
            return endOf(e) == startOf(f) && f != (e ^ 1);
        }

        int edgesAt(int vertex) {
            int count = 0;
            for (int edge = 0; edge < edges; edge++) {
                if (firsts[edge] == vertex || seconds[edge] == vertex) {
                    count++;
                }
            }
            return count;
        }

        int edgesBetween(int a, int b) {
            int count = 0;
            for (int edge = 0; edge < edges; edge++) {
                boolean forth = firsts[edge] == a && seconds[edge] == b;
                boolean back = firsts[edge] == b && seconds[edge] == a;
                if (forth || back) {
                    count++;
                }
            }
            return count;
        }
    }

    /** The saved graphs, the oldest one first. */
    private static final class History {
        private int count = 0;
        private final Graph[] saved = new Graph[MAX_SAVED];

        History() {
            for (int slot = 0; slot < MAX_SAVED; slot++) {
                saved[slot] = new Graph();
            }
        }

        void save(Graph graph) {
            if (count >= MAX_SAVED) {
                discardOldest();
            }
            saved[count].copyFrom(graph);
            count++;
        }

        void restore(Graph graph) {
            if (count > 0) {
                count--;
                graph.copyFrom(saved[count]);
            }
        }

        /** Moves the oldest graph to the end, where its rows are used again. */
        private void discardOldest() {
            Graph oldest = saved[0];
            for (int slot = 1; slot < MAX_SAVED; slot++) {
                saved[slot - 1] = saved[slot];
            }
            saved[MAX_SAVED - 1] = oldest;
            count = MAX_SAVED - 1;
        }
    }

    /** The text from which a graph is read. */
    private static final class EdgeText {
        private static final int AT_FIRST = 0;
        private static final int AT_SIGN = 1;
        private static final int AT_SECOND = 2;
        private static final int AT_END = 3;

        private int length = 0;
        private final int[] characters = new int[MAX_TEXT];
        private int stage;
        private int first;
        private int second;
        private int sign;

        void append(int character) {
            if (length < MAX_TEXT) {
                characters[length] = character;
                length++;
            }
        }

        /** Adds the edges of the text to a graph; returns the error position, or NO_ERROR. */
        int readInto(Graph target) {
            stage = AT_FIRST;
            for (int offset = 0; offset < length; offset++) {
                int character = characters[offset];
                if (character != ' ' && !accept(character, target)) {
                    return offset;
                }
            }
            return stage == AT_FIRST ? NO_ERROR : length;
        }

        private boolean accept(int character, Graph target) {
            switch (stage) {
                case AT_FIRST:
                    return acceptFirst(character - '0', target);
                case AT_SIGN:
                    return acceptSign(character);
                case AT_SECOND:
                    return acceptSecond(character - '0', target);
                default:
                    return acceptEnd(character, target);
            }
        }

        private boolean acceptFirst(int vertex, Graph target) {
            if (target.isFull() || !target.hasVertex(vertex)) {
                return false;
            }
            first = vertex;
            stage = AT_SIGN;
            return true;
        }

        private boolean acceptSign(int character) {
            if (character != '-' && character != '~') {
                return false;
            }
            sign = character == '-' ? 1 : -1;
            stage = AT_SECOND;
            return true;
        }

        private boolean acceptSecond(int vertex, Graph target) {
            if (vertex == first || !target.hasVertex(vertex)) {
                return false;
            }
            second = vertex;
            stage = AT_END;
            return true;
        }

        private boolean acceptEnd(int character, Graph target) {
            if (character != ';') {
                return false;
            }
            target.append(first, second, sign);
            stage = AT_FIRST;
            return true;
        }
    }

    /** The vertices in groups that edges unite, each group divided into side 0 and side 1. */
    private static final class Grouping {
        private final int[] groups = new int[MAX_VERTICES];
        private final int[] sides = new int[MAX_VERTICES];

        int countGroups(Graph graph) {
            separate();
            int count = graph.vertices;
            for (int edge = 0; edge < graph.edges; edge++) {
                if (unite(graph, edge)) {
                    count--;
                }
            }
            return count;
        }

        /** Whether the edges with the sign -1 can be exactly those between two parts. */
        boolean canDivide(Graph graph) {
            separate();
            for (int edge = 0; edge < graph.edges; edge++) {
                if (!unite(graph, edge) && turnFor(graph, edge) != 0) {
                    return false;
                }
            }
            return true;
        }

        /** Counts the sets of n - 1 edges that unite all vertices. */
        int countTrees(Graph graph) {
            int count = 0;
            for (int set = 0; set < (1 << graph.edges); set++) {
                if (Integer.bitCount(set) == graph.vertices - 1 && isForest(graph, set)) {
                    count++;
                }
            }
            return count;
        }

        private boolean isForest(Graph graph, int set) {
            separate();
            for (int edge = 0; edge < graph.edges; edge++) {
                boolean chosen = (set >> edge & 1) == 1;
                if (chosen && !unite(graph, edge)) {
                    return false;
                }
            }
            return true;
        }

        private void separate() {
            for (int vertex = 0; vertex < MAX_VERTICES; vertex++) {
                groups[vertex] = vertex;
                sides[vertex] = 0;
            }
        }

        /** Unites the groups of an edge's two ends; false if they are one group already. */
        private boolean unite(Graph graph, int edge) {
            int kept = groups[graph.firsts[edge]];
            int gone = groups[graph.seconds[edge]];
            if (kept == gone) {
                return false;
            }
            int turn = turnFor(graph, edge);
            for (int vertex = 0; vertex < MAX_VERTICES; vertex++) {
                if (groups[vertex] == gone) {
                    groups[vertex] = kept;
                    sides[vertex] ^= turn;
                }
            }
            return true;
        }

        /** Returns 1 if one end would have to change its side to suit the sign of the edge. */
        private int turnFor(Graph graph, int edge) {
            int crossing = graph.signs[edge] == -1 ? 1 : 0;
            return sides[graph.firsts[edge]] ^ sides[graph.seconds[edge]] ^ crossing;
        }
    }

    /** The numbers of closed walks, and of the primitive ones, for every length. */
    private static final class WalkCounter {
        private final long[] closed = new long[MAX_LENGTH + 1];
        private final long[] closedSigned = new long[MAX_LENGTH + 1];
        private final long[] primitive = new long[MAX_LENGTH + 1];
        private final long[] primitiveSigned = new long[MAX_LENGTH + 1];
        private final long[] reached = new long[MAX_DIRECTED];
        private final long[] arrived = new long[MAX_VERTICES];

        void countClosed(Graph graph) {
            addReturns(graph, false, closed);
        }

        void countClosedSigned(Graph graph) {
            addReturns(graph, true, closedSigned);
        }

        /** Takes from the closed walks of each length those that repeat a shorter one. */
        void countPrimitive(Graph graph) {
            countClosed(graph);
            for (int length = 1; length <= MAX_LENGTH; length++) {
                primitive[length] = closed[length];
                for (int part = 1; part < length; part++) {
                    if (length % part == 0) {
                        primitive[length] -= primitive[part];
                    }
                }
            }
        }

        /** A walk repeated an even number of times has the sign 1, whatever its own sign. */
        void countPrimitiveSigned(Graph graph) {
            countPrimitive(graph);
            countClosedSigned(graph);
            for (int length = 1; length <= MAX_LENGTH; length++) {
                primitiveSigned[length] = closedSigned[length];
                for (int part = 1; part < length; part++) {
                    if (length % part == 0) {
                        boolean even = length / part % 2 == 0;
                        primitiveSigned[length] -= even ? primitive[part] : primitiveSigned[part];
                    }
                }
            }
        }

        /** Read backwards, the walks from an edge are those from its inverse, with equal signs. */
        private void addReturns(Graph graph, boolean withSigns, long[] totals) {
            Arrays.fill(totals, 0L);
            for (int edge = 0; edge < graph.edges; edge++) {
                int start = 2 * edge;
                Arrays.fill(reached, 0L);
                reached[start] = 1L;
                for (int length = 1; length <= MAX_LENGTH; length++) {
                    goOn(graph, withSigns);
                    totals[length] += 2 * reached[start];
                }
            }
        }

        /**
         * Replaces the walks that end with each directed edge by those one edge longer. All that
         * arrive at a vertex go on along an edge, but for those that came by its inverse.
         */
        private void goOn(Graph graph, boolean withSigns) {
            Arrays.fill(arrived, 0L);
            for (int directed = 0; directed < 2 * graph.edges; directed++) {
                arrived[graph.endOf(directed)] += reached[directed];
            }
            for (int edge = 0; edge < graph.edges; edge++) {
                int forth = 2 * edge;
                int back = 2 * edge + 1;
                long sign = withSigns ? graph.signs[edge] : 1L;
                long alongForth = arrived[graph.startOf(forth)] - reached[back];
                long alongBack = arrived[graph.startOf(back)] - reached[forth];
                reached[forth] = sign * alongForth;
                reached[back] = sign * alongBack;
            }
        }
    }

    /** Finds the representatives of primes in lexicographic order. */
    private static final class PrimeSearch {
        private final int[] word = new int[MAX_PRIME_LENGTH];
        private int toSkip;

        /** Puts the representative of a prime into the word; false if there is no such prime. */
        boolean find(Graph graph, int length, int index) {
            toSkip = index;
            return extend(graph, length, 0, 1);
        }

        int signOfWord(Graph graph, int length) {
            int sign = 1;
            for (int position = 0; position < length; position++) {
                sign *= graph.signs[word[position] / 2];
            }
            return sign;
        }

        /**
         * Goes through all words that continue the first edges of the present one. A beginning of
         * a smallest rotation, with the period given, remains one only if the next edge is at
         * least the one a period earlier, and keeps its period only if both are equal.
         */
        private boolean extend(Graph graph, int length, int position, int period) {
            if (position >= length) {
                return isWanted(graph, length, period);
            }
            int smallest = position == 0 ? 0 : word[position - period];
            for (int next = smallest; next < 2 * graph.edges; next++) {
                if (position > 0 && !graph.leadsOn(word[position - 1], next)) {
                    continue;
                }
                word[position] = next;
                boolean repeats = position > 0 && next == smallest;
                if (extend(graph, length, position + 1, repeats ? period : position + 1)) {
                    return true;
                }
            }
            return false;
        }

        /** The full word is a representative if it closes and has no period but its length. */
        private boolean isWanted(Graph graph, int length, int period) {
            if (period != length || !graph.leadsOn(word[length - 1], word[0])) {
                return false;
            }
            if (toSkip > 0) {
                toSkip--;
                return false;
            }
            return true;
        }
    }

    /** The polynomial det(I - u * M) of an edge matrix M, signed or not. */
    private static final class EdgePolynomial {
        private final long[] coefficients = new long[MAX_DEGREE + 1];
        private final long[] work = new long[MAX_DEGREE + 1];

        /**
         * Newton's identities, from the traces of the powers of M. A partial sum may wrap around,
         * but the whole sum is k times a small coefficient, so it comes out right.
         */
        void makeFrom(long[] traces) {
            coefficients[0] = 1L;
            for (int k = 1; k <= MAX_DEGREE; k++) {
                long sum = 0L;
                for (int i = 1; i <= k; i++) {
                    sum += traces[i] * coefficients[k - i];
                }
                coefficients[k] = -sum / k;
            }
        }

        long inverseCoefficient(int k) {
            work[0] = 1L;
            for (int power = 1; power <= k; power++) {
                long sum = 0L;
                for (int i = 1; i <= power; i++) {
                    sum += coefficients[i] * work[power - i];
                }
                work[power] = -sum;
            }
            return work[k];
        }

        long valueAt(long u) {
            long value = 0L;
            for (int k = MAX_DEGREE; k >= 0; k--) {
                value = value * u + coefficients[k];
            }
            return value;
        }

        /** Divides by (u - 1) again and again; the k-th remainder is the coefficient. */
        long coefficientAroundOne(int k) {
            System.arraycopy(coefficients, 0, work, 0, MAX_DEGREE + 1);
            for (int round = 0; round <= k; round++) {
                for (int power = MAX_DEGREE - 1; power >= round; power--) {
                    work[power] += work[power + 1];
                }
            }
            return work[k];
        }

        int highestPower() {
            for (int k = MAX_DEGREE; k > 0; k--) {
                if (coefficients[k] != 0L) {
                    return k;
                }
            }
            return 0;
        }
    }

    /** The polynomial det(I - u * A + u^2 * Q), and the Bass polynomial made from it. */
    private static final class VertexPolynomial {
        private final long[] coefficients = new long[MAX_DEGREE + 1];
        private final long[][] minors = new long[COLUMN_SETS][MAX_VERTEX_DEGREE + 1];

        /** For every set of columns, the determinant of these columns in as many upper rows. */
        void makeFrom(Graph graph) {
            Arrays.fill(minors[0], 0L);
            minors[0][0] = 1L;
            int all = (1 << graph.vertices) - 1;
            for (int set = 1; set <= all; set++) {
                makeMinor(graph, set);
            }
            Arrays.fill(coefficients, 0L);
            System.arraycopy(minors[all], 0, coefficients, 0, MAX_VERTEX_DEGREE + 1);
        }

        /** Multiplies by (1 - u^2) to a power; the division for a negative one leaves no rest. */
        void turnIntoBass(int power) {
            for (int round = 0; round < power; round++) {
                for (int k = MAX_DEGREE; k >= 2; k--) {
                    coefficients[k] -= coefficients[k - 2];
                }
            }
            for (int round = 0; round < -power; round++) {
                for (int k = 2; k <= MAX_DEGREE; k++) {
                    coefficients[k] += coefficients[k - 2];
                }
            }
        }

        /** Expands along the last row; the last column of the set comes with the sign 1. */
        private void makeMinor(Graph graph, int set) {
            long[] minor = minors[set];
            Arrays.fill(minor, 0L);
            int row = Integer.bitCount(set) - 1;
            long sign = 1L;
            for (int column = graph.vertices - 1; column >= 0; column--) {
                if ((set >> column & 1) == 1) {
                    addProduct(graph, row, column, sign, minors[set ^ (1 << column)], minor);
                    sign = -sign;
                }
            }
        }

        /** Adds sign * (entry of row and column) * rest to the minor. */
        private static void addProduct(Graph graph, int row, int column, long sign, long[] rest, long[] minor) {
            if (row != column) {
                addShifted(rest, 1, -sign * graph.edgesBetween(row, column), minor);
                return;
            }
            addShifted(rest, 0, sign, minor);
            addShifted(rest, 2, sign * (graph.edgesAt(row) - 1), minor);
        }

        /** Adds factor * u^shift * rest to the minor. */
        private static void addShifted(long[] rest, int shift, long factor, long[] minor) {
            for (int k = shift; k <= MAX_VERTEX_DEGREE; k++) {
                minor[k] += factor * rest[k - shift];
            }
        }
    }
}
