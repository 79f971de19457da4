import java.math.BigInteger;
import java.util.ArrayDeque;
import java.util.ArrayList;
import java.util.List;
import java.util.TreeSet;

/**
 * The document once more, slowly and in other ways than the program: whole numbers of any size,
 * determinants by elimination at many places, the double cover as a graph of its own, primes as
 * sets of words, and a copy of every saved graph.
 */
final class Reference {
    private static final long ILLEGAL = Long.MIN_VALUE;
    private static final BigInteger ZERO = BigInteger.ZERO;
    private static final BigInteger ONE = BigInteger.ONE;

    private int n = 4;
    private List<int[]> edges = new ArrayList<>();
    private String text = "";
    private final ArrayDeque<Object[]> saved = new ArrayDeque<>();
    private BigInteger[] edgeCache;
    private BigInteger[] signedCache;
    private BigInteger[] vertexCache;
    private BigInteger[][] walkCache;
    private final List<TreeSet<String>> primeCache = new ArrayList<>();

    /** Answers a call by the number of its promise, 2 to 35. */
    long answer(int promise, int p, int q, int r) {
        switch (promise) {
            case 2: return configure(p);
            case 3: return addEdge(p, q, r);
            case 4: return removeEdge(p);
            case 5: return flipSign(p);
            case 6: return appendCharacter(p);
            case 7: return clearText();
            case 8: return loadGraph();
            case 9: return undo();
            case 10: return n;
            case 11: return edges.size();
            case 12: return isDirected(p) ? head(p) : -1;
            case 13: return isDirected(p) && isDirected(q) ? (leads(edges, p, q) ? 1 : 0) : -1;
            case 14: return p < 0 || p >= n ? -1 : degree(p);
            case 15: return components(n, edges);
            case 16: return edges.size() - n + components(n, edges);
            case 17: return isBalanced();
            case 18: return isLength(p) ? walkTotals()[0][p].longValueExact() : ILLEGAL;
            case 19: return isLength(p) ? walkTotals()[1][p].longValueExact() : ILLEGAL;
            case 20: return isLength(p) ? walkTotals()[2][p].longValueExact() : ILLEGAL;
            case 21: return isLength(p) ? primeTotals(p)[0] + primeTotals(p)[1] : ILLEGAL;
            case 22: return isLength(p) ? primeTotals(p)[0] : ILLEGAL;
            case 23: return girth();
            case 24: return period();
            case 25: return primeEdge(p, q, r);
            case 26: return primeSign(p, q);
            default: return polynomialAnswer(promise, p);
        }
    }

    private long polynomialAnswer(int promise, int k) {
        switch (promise) {
            case 27: return k < 0 || k > 18 ? ILLEGAL : edgePolynomial()[k].longValueExact();
            case 28: return k < 0 || k > 18 ? ILLEGAL : signedPolynomial()[k].longValueExact();
            case 29: return k < 0 || k > 12 ? ILLEGAL : vertexPolynomial()[k].longValueExact();
            case 30: return k < 0 || k > 18 ? ILLEGAL : bassPolynomial()[k].longValueExact();
            case 31: return k < 0 || k > 12 ? ILLEGAL : zeta(k);
            case 32: return k < -2 || k > 2 ? ILLEGAL : valueAt(edgeMatrix(false), k).longValueExact();
            case 33: return k < 0 || k > 18 ? ILLEGAL : taylor(k);
            case 34: return edgeDegree();
            case 35: return spanningTrees();
            default: throw new IllegalStateException("no promise " + promise);
        }
    }

    // ---- graph

    private void change(int newN, List<int[]> newEdges) {
        saved.addLast(new Object[] {n, edges});
        if (saved.size() > 8) {
            saved.removeFirst();
        }
        become(newN, newEdges);
    }

    private void become(int newN, List<int[]> newEdges) {
        n = newN;
        edges = newEdges;
        edgeCache = null;
        signedCache = null;
        vertexCache = null;
        walkCache = null;
        primeCache.clear();
    }

    private List<int[]> copy() {
        List<int[]> all = new ArrayList<>();
        for (int[] edge : edges) {
            all.add(edge.clone());
        }
        return all;
    }

    private int configure(int vertices) {
        if (vertices < 1 || vertices > 6) {
            return -1;
        }
        int previous = n;
        change(vertices, new ArrayList<>());
        return previous;
    }

    private int addEdge(int a, int b, int sign) {
        if (a < 0 || a >= n || b < 0 || b >= n || a == b || (sign != 1 && sign != -1)) {
            return -1;
        }
        if (edges.size() == 9) {
            return -3;
        }
        List<int[]> all = copy();
        all.add(new int[] {a, b, sign});
        change(n, all);
        return edges.size() - 1;
    }

    private int removeEdge(int edge) {
        if (edge < 0 || edge >= edges.size()) {
            return -1;
        }
        List<int[]> all = copy();
        all.remove(edge);
        change(n, all);
        return edges.size();
    }

    private int flipSign(int edge) {
        if (edge < 0 || edge >= edges.size()) {
            return 0;
        }
        List<int[]> all = copy();
        all.get(edge)[2] *= -1;
        change(n, all);
        return edges.get(edge)[2];
    }

    private int appendCharacter(int character) {
        if (character < 0 || character > 255) {
            return -1;
        }
        if (text.length() == 60) {
            return -3;
        }
        text += (char) character;
        return text.length();
    }

    private int clearText() {
        int previous = text.length();
        text = "";
        return previous;
    }

    private int loadGraph() {
        List<int[]> all = new ArrayList<>();
        String digits = "012345".substring(0, n);
        StringBuilder edge = new StringBuilder();
        for (int i = 0; i < text.length(); i++) {
            char sign = text.charAt(i);
            if (sign == ' ') {
                continue;
            }
            String allowed = edge.length() == 1 ? "-~" : edge.length() == 3 ? ";" : digits;
            boolean twice = edge.length() == 2 && sign == edge.charAt(0);
            boolean tenth = edge.length() == 0 && all.size() == 9;
            if (allowed.indexOf(sign) < 0 || twice || tenth) {
                return -10 - i;
            }
            edge.append(sign);
            if (edge.length() == 4) {
                all.add(new int[] {edge.charAt(0) - '0', edge.charAt(2) - '0', edge.charAt(1) == '-' ? 1 : -1});
                edge.setLength(0);
            }
        }
        if (edge.length() > 0) {
            return -10 - text.length();
        }
        change(n, all);
        text = "";
        return all.size();
    }

    @SuppressWarnings("unchecked")
    private int undo() {
        if (saved.isEmpty()) {
            return -2;
        }
        Object[] last = saved.removeLast();
        become((Integer) last[0], (List<int[]>) last[1]);
        return saved.size();
    }

    // ---- properties

    private boolean isDirected(int d) {
        return d >= 0 && d < 2 * edges.size();
    }

    private int head(int d) {
        return edges.get(d / 2)[d % 2 == 0 ? 1 : 0];
    }

    private static boolean leads(List<int[]> all, int e, int f) {
        int end = all.get(e / 2)[1 - e % 2];
        int begin = all.get(f / 2)[f % 2];
        boolean inverse = e / 2 == f / 2 && e != f;
        return end == begin && !inverse;
    }

    private int degree(int vertex) {
        int count = 0;
        for (int[] edge : edges) {
            count += (edge[0] == vertex ? 1 : 0) + (edge[1] == vertex ? 1 : 0);
        }
        return count;
    }

    private static int components(int vertices, List<int[]> all) {
        boolean[] seen = new boolean[vertices];
        int count = 0;
        for (int start = 0; start < vertices; start++) {
            if (!seen[start]) {
                count++;
                visit(start, all, seen);
            }
        }
        return count;
    }

    private static void visit(int vertex, List<int[]> all, boolean[] seen) {
        seen[vertex] = true;
        for (int[] edge : all) {
            if (edge[0] == vertex && !seen[edge[1]]) {
                visit(edge[1], all, seen);
            }
            if (edge[1] == vertex && !seen[edge[0]]) {
                visit(edge[0], all, seen);
            }
        }
    }

    private int isBalanced() {
        for (int part = 0; part < 1 << n; part++) {
            boolean fits = true;
            for (int[] edge : edges) {
                boolean between = (part >> edge[0] & 1) != (part >> edge[1] & 1);
                fits &= between == (edge[2] == -1);
            }
            if (fits) {
                return 1;
            }
        }
        return 0;
    }

    // ---- walks and primes

    private static boolean isLength(int length) {
        return length >= 1 && length <= 18;
    }

    /** Without signs, with signs, and in the double cover, each for the lengths 0 to 18. */
    private BigInteger[][] walkTotals() {
        if (walkCache == null) {
            walkCache = new BigInteger[][] {
                traces(edgeMatrix(false)), traces(edgeMatrix(true)), traces(matrix(doubleCover(), false))};
        }
        return walkCache;
    }

    /** The vertices (v, 0) and (v, 1) get the numbers v and v + n. */
    private List<int[]> doubleCover() {
        List<int[]> all = new ArrayList<>();
        for (int[] edge : edges) {
            int far = edge[2] == 1 ? 0 : n;
            all.add(new int[] {edge[0], edge[1] + far, 1});
            all.add(new int[] {edge[0] + n, edge[1] + n - far, 1});
        }
        return all;
    }

    private BigInteger[][] edgeMatrix(boolean withSigns) {
        return matrix(edges, withSigns);
    }

    private static BigInteger[][] matrix(List<int[]> all, boolean withSigns) {
        int size = 2 * all.size();
        BigInteger[][] m = new BigInteger[size][size];
        for (int e = 0; e < size; e++) {
            for (int f = 0; f < size; f++) {
                int sign = withSigns ? all.get(e / 2)[2] : 1;
                m[e][f] = BigInteger.valueOf(leads(all, e, f) ? sign : 0);
            }
        }
        return m;
    }

    private static BigInteger[] traces(BigInteger[][] m) {
        BigInteger[] all = new BigInteger[19];
        BigInteger[][] power = m;
        for (int length = 1; length <= 18; length++) {
            BigInteger sum = ZERO;
            for (int i = 0; i < m.length; i++) {
                sum = sum.add(power[i][i]);
            }
            all[length] = sum;
            power = times(power, m);
        }
        return all;
    }

    /** The right factor has few entries that are not 0, so its rows are passed over quickly. */
    private static BigInteger[][] times(BigInteger[][] a, BigInteger[][] b) {
        int size = a.length;
        BigInteger[][] c = new BigInteger[size][size];
        for (int i = 0; i < size; i++) {
            for (int j = 0; j < size; j++) {
                c[i][j] = ZERO;
            }
            for (int k = 0; k < size; k++) {
                for (int j = 0; j < size; j++) {
                    if (a[i][k].signum() != 0 && b[k][j].signum() != 0) {
                        c[i][j] = c[i][j].add(a[i][k].multiply(b[k][j]));
                    }
                }
            }
        }
        return c;
    }

    /**
     * The primes of a length with the sign 1 and -1. A prime of length d with the sign s stands
     * behind d closed walks of each length m that d divides, with the sign s^(m / d).
     */
    private long[] primeTotals(int length) {
        long[] plus = new long[length + 1];
        long[] minus = new long[length + 1];
        for (int m = 1; m <= length; m++) {
            BigInteger positive = walkTotals()[0][m].add(walkTotals()[1][m]).shiftRight(1);
            BigInteger negative = walkTotals()[0][m].subtract(walkTotals()[1][m]).shiftRight(1);
            for (int d = 1; d < m; d++) {
                if (m % d == 0) {
                    boolean even = m / d % 2 == 0;
                    positive = positive.subtract(BigInteger.valueOf(d * (plus[d] + (even ? minus[d] : 0))));
                    negative = negative.subtract(BigInteger.valueOf(even ? 0 : d * minus[d]));
                }
            }
            plus[m] = exactQuotient(positive, m);
            minus[m] = exactQuotient(negative, m);
        }
        return new long[] {plus[length], minus[length]};
    }

    private static long exactQuotient(BigInteger number, int divisor) {
        BigInteger[] both = number.divideAndRemainder(BigInteger.valueOf(divisor));
        if (both[1].signum() != 0) {
            throw new IllegalStateException("no whole number of primes");
        }
        return both[0].longValueExact();
    }

    private int girth() {
        for (int m = 1; m <= 18; m++) {
            if (primeTotals(m)[0] + primeTotals(m)[1] > 0) {
                return m;
            }
        }
        return -9;
    }

    private int period() {
        BigInteger divisor = ZERO;
        for (int m = 1; m <= 18; m++) {
            if (primeTotals(m)[0] + primeTotals(m)[1] > 0) {
                divisor = divisor.gcd(BigInteger.valueOf(m));
            }
        }
        return divisor.signum() == 0 ? -9 : divisor.intValue();
    }

    /** The representatives of a length as words, in which the letter 'a' is directed edge 0. */
    TreeSet<String> representatives(int length) {
        if (primeCache.isEmpty()) {
            for (int m = 0; m <= 5; m++) {
                primeCache.add(null);
            }
        }
        if (primeCache.get(length) == null) {
            TreeSet<String> all = new TreeSet<>();
            collect("", length, all);
            primeCache.set(length, all);
        }
        return primeCache.get(length);
    }

    private void collect(String word, int length, TreeSet<String> all) {
        if (word.length() == length) {
            if (leads(edges, word.charAt(length - 1) - 'a', word.charAt(0) - 'a') && isPrimitive(word)) {
                all.add(smallestRotation(word));
            }
            return;
        }
        for (int f = 0; f < 2 * edges.size(); f++) {
            if (word.isEmpty() || leads(edges, word.charAt(word.length() - 1) - 'a', f)) {
                collect(word + (char) ('a' + f), length, all);
            }
        }
    }

    private static boolean isPrimitive(String word) {
        for (int part = 1; part < word.length(); part++) {
            if (word.length() % part == 0 && word.substring(0, part).repeat(word.length() / part).equals(word)) {
                return false;
            }
        }
        return true;
    }

    private static String smallestRotation(String word) {
        String smallest = word;
        for (int turn = 1; turn < word.length(); turn++) {
            String other = word.substring(turn) + word.substring(0, turn);
            if (other.compareTo(smallest) < 0) {
                smallest = other;
            }
        }
        return smallest;
    }

    private String representative(int length, int index) {
        TreeSet<String> all = representatives(length);
        if (index >= all.size()) {
            return null;
        }
        return new ArrayList<>(all).get(index);
    }

    private int primeEdge(int length, int index, int position) {
        if (length < 1 || length > 5 || position < 0 || position >= length || index < 0) {
            return -1;
        }
        String word = representative(length, index);
        return word == null ? -9 : word.charAt(position) - 'a';
    }

    private int primeSign(int length, int index) {
        if (length < 1 || length > 5 || index < 0) {
            return 0;
        }
        String word = representative(length, index);
        if (word == null) {
            return 0;
        }
        int sign = 1;
        for (int i = 0; i < length; i++) {
            sign *= edges.get((word.charAt(i) - 'a') / 2)[2];
        }
        return sign;
    }

    // ---- polynomials

    private BigInteger[] edgePolynomial() {
        if (edgeCache == null) {
            edgeCache = throughPlaces(edgeMatrix(false), 18);
        }
        return edgeCache;
    }

    private BigInteger[] signedPolynomial() {
        if (signedCache == null) {
            signedCache = throughPlaces(edgeMatrix(true), 18);
        }
        return signedCache;
    }

    private BigInteger[] vertexPolynomial() {
        if (vertexCache == null) {
            BigInteger[] values = new BigInteger[13];
            for (int u = 0; u <= 12; u++) {
                values[u] = vertexValue(u);
            }
            vertexCache = interpolate(values);
        }
        return vertexCache;
    }

    private BigInteger vertexValue(int u) {
        BigInteger[][] m = new BigInteger[n][n];
        for (int a = 0; a < n; a++) {
            for (int b = 0; b < n; b++) {
                int between = 0;
                for (int[] edge : edges) {
                    between += (edge[0] == a && edge[1] == b) || (edge[0] == b && edge[1] == a) ? 1 : 0;
                }
                int own = a == b ? 1 + u * u * (degree(a) - 1) : 0;
                m[a][b] = BigInteger.valueOf(own - u * between);
            }
        }
        return determinant(m);
    }

    /** Long multiplication or division by 1 - u^2; a rest of the division would be an error. */
    private BigInteger[] bassPolynomial() {
        BigInteger[] all = new BigInteger[19];
        for (int k = 0; k <= 18; k++) {
            all[k] = k <= 12 ? vertexPolynomial()[k] : ZERO;
        }
        for (int round = n; round < edges.size(); round++) {
            BigInteger[] next = new BigInteger[19];
            for (int k = 0; k <= 18; k++) {
                next[k] = all[k].subtract(k >= 2 ? all[k - 2] : ZERO);
            }
            all = next;
        }
        for (int round = edges.size(); round < n; round++) {
            all = dividedByOneMinusSquare(all);
        }
        return all;
    }

    private static BigInteger[] dividedByOneMinusSquare(BigInteger[] dividend) {
        BigInteger[] rest = dividend.clone();
        BigInteger[] quotient = new BigInteger[19];
        quotient[17] = ZERO;
        quotient[18] = ZERO;
        for (int k = 18; k >= 2; k--) {
            quotient[k - 2] = rest[k].negate();
            rest[k - 2] = rest[k - 2].subtract(quotient[k - 2]);
        }
        if (rest[0].signum() != 0 || rest[1].signum() != 0) {
            throw new IllegalStateException("not divisible by 1 - u^2");
        }
        return quotient;
    }

    /** k * z(k) is the sum of N(i) * z(k - i), where N(i) is the number of closed walks. */
    private long zeta(int greatest) {
        BigInteger[] z = new BigInteger[greatest + 1];
        z[0] = ONE;
        for (int k = 1; k <= greatest; k++) {
            BigInteger sum = ZERO;
            for (int i = 1; i <= k; i++) {
                sum = sum.add(walkTotals()[0][i].multiply(z[k - i]));
            }
            z[k] = BigInteger.valueOf(exactQuotient(sum, k));
        }
        return z[greatest].longValueExact();
    }

    private long taylor(int k) {
        BigInteger sum = ZERO;
        for (int j = k; j <= 18; j++) {
            BigInteger choose = ONE;
            for (int i = 1; i <= k; i++) {
                choose = choose.multiply(BigInteger.valueOf(j - k + i)).divide(BigInteger.valueOf(i));
            }
            sum = sum.add(edgePolynomial()[j].multiply(choose));
        }
        return sum.longValueExact();
    }

    private int edgeDegree() {
        int degree = 0;
        for (int k = 0; k <= 18; k++) {
            if (edgePolynomial()[k].signum() != 0) {
                degree = k;
            }
        }
        return degree;
    }

    /** Kirchhoff: a minor of the Laplace matrix. */
    private int spanningTrees() {
        BigInteger[][] m = new BigInteger[n - 1][n - 1];
        for (BigInteger[] row : m) {
            java.util.Arrays.fill(row, ZERO);
        }
        for (int[] edge : edges) {
            for (int a : new int[] {edge[0], edge[1]}) {
                for (int b : new int[] {edge[0], edge[1]}) {
                    if (a > 0 && b > 0) {
                        m[a - 1][b - 1] = m[a - 1][b - 1].add(BigInteger.valueOf(a == b ? 1 : -1));
                    }
                }
            }
        }
        return determinant(m).intValueExact();
    }

    /** The polynomial det(I - u * m), of at most the degree given. */
    private static BigInteger[] throughPlaces(BigInteger[][] m, int degree) {
        BigInteger[] values = new BigInteger[degree + 1];
        for (int u = 0; u <= degree; u++) {
            values[u] = valueAt(m, u);
        }
        return interpolate(values);
    }

    private static BigInteger valueAt(BigInteger[][] m, int u) {
        BigInteger[][] a = new BigInteger[m.length][m.length];
        for (int i = 0; i < m.length; i++) {
            for (int j = 0; j < m.length; j++) {
                a[i][j] = BigInteger.valueOf(i == j ? 1 : 0).subtract(m[i][j].multiply(BigInteger.valueOf(u)));
            }
        }
        return determinant(a);
    }

    /** Newton's differences, for a polynomial with whole coefficients and its values at 0, 1, 2 .. */
    private static BigInteger[] interpolate(BigInteger[] values) {
        int size = values.length;
        BigInteger[] differences = values.clone();
        BigInteger[] all = new BigInteger[size];
        BigInteger[] falling = new BigInteger[size + 1];
        java.util.Arrays.fill(all, ZERO);
        java.util.Arrays.fill(falling, ZERO);
        falling[0] = ONE;
        BigInteger factorial = ONE;
        for (int k = 0; k < size; k++) {
            BigInteger[] both = differences[0].divideAndRemainder(factorial);
            if (both[1].signum() != 0) {
                throw new IllegalStateException("coefficients are not whole");
            }
            for (int i = 0; i <= k; i++) {
                all[i] = all[i].add(both[0].multiply(falling[i]));
            }
            for (int i = k + 1; i >= 0; i--) {
                BigInteger lower = i > 0 ? falling[i - 1] : ZERO;
                falling[i] = lower.subtract(falling[i].multiply(BigInteger.valueOf(k)));
            }
            for (int i = 0; i + 1 < size - k; i++) {
                differences[i] = differences[i + 1].subtract(differences[i]);
            }
            factorial = factorial.multiply(BigInteger.valueOf(k + 1));
        }
        return all;
    }

    /** Bareiss' elimination, without fractions. */
    private static BigInteger determinant(BigInteger[][] a) {
        int size = a.length;
        BigInteger previous = ONE;
        int sign = 1;
        for (int k = 0; k < size; k++) {
            int pivot = k;
            while (pivot < size && a[pivot][k].signum() == 0) {
                pivot++;
            }
            if (pivot == size) {
                return ZERO;
            }
            if (pivot != k) {
                BigInteger[] row = a[pivot];
                a[pivot] = a[k];
                a[k] = row;
                sign = -sign;
            }
            for (int i = k + 1; i < size; i++) {
                for (int j = k + 1; j < size; j++) {
                    a[i][j] = a[i][j].multiply(a[k][k]).subtract(a[i][k].multiply(a[k][j])).divide(previous);
                }
            }
            previous = a[k][k];
        }
        return sign == 1 ? previous : previous.negate();
    }
}
