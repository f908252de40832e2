import java.math.BigInteger;
import java.util.ArrayList;
import java.util.List;

/**
 * The document's words, said again as directly as can be and without regard to speed: power series
 * in s and t are put into the inputs, and the coefficients are read off. No code is shared with the
 * program, so that the two can be compared.
 */
final class Reference {
    static final int UNDEFINED = -1;
    static final int ROUGH = -2;
    static final int REFUSED = -3;
    static final long P = 65521;

    /** kind 0 .. 6 as in the document, 'i' an input, 'c' a constant. */
    private record Node(int kind, int a, int b, long number) {
        boolean isOperation() {
            return kind <= 6;
        }

        boolean hasSecond() {
            return kind < 6;
        }
    }

    private final List<Node> nodes = new ArrayList<>();
    private final List<Integer> outputs = new ArrayList<>();
    private final List<Long> point = new ArrayList<>();
    private final List<Long> direction = new ArrayList<>();
    private final List<Long> weights = new ArrayList<>();
    private List<Long> arrived = new ArrayList<>();
    private List<Long> adjoints = new ArrayList<>();

    static long number(long v) {
        return BigInteger.valueOf(v).mod(BigInteger.valueOf(P)).longValue();
    }

    int input() {
        if (nodes.size() == 24 || point.size() == 5) return REFUSED;
        nodes.add(new Node('i', point.size(), 0, 0));
        point.add(0L);
        direction.add(0L);
        return nodes.size() - 1;
    }

    int constant(int v) {
        if (nodes.size() == 24) return REFUSED;
        nodes.add(new Node('c', 0, 0, number(v)));
        return nodes.size() - 1;
    }

    int operation(int kind, int a, int b) {
        if (nodes.size() == 24 || kind < 0 || kind > 6 || !hasNode(a)) return REFUSED;
        if (kind == 6 ? b < 0 || b > 9 : !hasNode(b)) return REFUSED;
        nodes.add(new Node(kind, a, b, 0));
        return nodes.size() - 1;
    }

    int output(int node) {
        if (!hasNode(node) || outputs.size() == 5) return REFUSED;
        outputs.add(node);
        weights.add(0L);
        return outputs.size() - 1;
    }

    boolean point(int j, int v) {
        if (!hasInput(j)) return false;
        point.set(j, number(v));
        return true;
    }

    boolean direction(int j, int v) {
        if (!hasInput(j)) return false;
        direction.set(j, number(v));
        return true;
    }

    boolean weight(int i, int v) {
        if (!hasOutput(i)) return false;
        weights.set(i, number(v));
        return true;
    }

    int value(int node) {
        if (!hasNode(node)) return REFUSED;
        return (int) valueOf(node, point);
    }

    int forward(int i) {
        return taylor(i, 1);
    }

    int reverse(int j) {
        if (!hasInput(j)) return REFUSED;
        boolean undefined = false;
        boolean rough = false;
        long sum = 0;
        for (int i = 0; i < outputs.size(); i++) {
            if (weights.get(i) == 0) continue;
            int derivative = entry(i, j);
            undefined |= derivative == UNDEFINED;
            rough |= derivative == ROUGH;
            sum = number(sum + weights.get(i) * derivative);
        }
        return undefined ? UNDEFINED : rough ? ROUGH : (int) sum;
    }

    int taylor(int i, int k) {
        if (!hasOutput(i) || k < 0 || k > 8) return REFUSED;
        int state = state(outputs.get(i), point);
        if (state != 0) return state;
        List<long[][]> at = seriesAt(point, 0, k);
        for (int j = 0; k > 0 && j < at.size(); j++) at.get(j)[0][1] = direction.get(j);
        return (int) seriesOf(at, 0, k)[outputs.get(i)][0][k];
    }

    int second(int i, int j, int k) {
        if (!hasOutput(i) || !hasInput(j) || !hasInput(k)) return REFUSED;
        int state = state(outputs.get(i), point);
        if (state != 0) return state;
        List<long[][]> at = seriesAt(point, 1, 1);
        at.get(j)[1][0] = 1;
        at.get(k)[0][1] = 1;
        return (int) seriesOf(at, 1, 1)[outputs.get(i)][1][1];
    }

    boolean depends(int i, int j) {
        return hasOutput(i) && hasInput(j) && nodeDepends(outputs.get(i), j);
    }

    int colour(int j) {
        if (!hasInput(j)) return REFUSED;
        for (int colour = 0; ; colour++) {
            boolean free = true;
            for (int k = 0; k < j; k++) free &= !(conflict(j, k) && colour(k) == colour);
            if (free) return colour;
        }
    }

    int colours() {
        List<Integer> different = new ArrayList<>();
        for (int j = 0; j < point.size(); j++) {
            if (!different.contains(colour(j))) different.add(colour(j));
        }
        return different.size();
    }

    int entry(int i, int j) {
        if (!hasOutput(i) || !hasInput(j)) return REFUSED;
        int state = state(outputs.get(i), point);
        if (state != 0) return state;
        List<long[][]> at = seriesAt(point, 0, 1);
        at.get(j)[0][1] = 1;
        return (int) seriesOf(at, 0, 1)[outputs.get(i)][0][1];
    }

    int size() {
        boolean[] live = new boolean[nodes.size()];
        for (int node : outputs) enliven(node, live);
        List<Integer> kept = new ArrayList<>();
        for (int node = 0; node < nodes.size(); node++) {
            if (!live[node]) continue;
            int alikes = 0;
            for (int other : kept) alikes += alike(node, other) ? 1 : 0;
            if (alikes == 0) kept.add(node);
            // Keeping the first that comes is only the greatest number if alike goes by groups.
            if (alikes > 1) throw new IllegalStateException("alike does not go by groups");
        }
        return kept.size();
    }

    int march(int n, int s) {
        int length = point.size();
        if (length == 0 || length != outputs.size() || n < 1 || n > 20 || s < 1 || s > 5) return REFUSED;
        List<Long> list = point;
        for (int step = 0; step < n; step++) {
            boolean undefined = false;
            boolean rough = false;
            List<Long> next = new ArrayList<>();
            for (int node : outputs) {
                undefined |= state(node, list) == UNDEFINED;
                rough |= state(node, list) == ROUGH;
                next.add(valueOf(node, list));
            }
            if (undefined || rough) return undefined ? UNDEFINED : ROUGH;
            list = next;
        }
        arrived = list;
        adjoints = new ArrayList<>();
        for (int j = 0; j < length; j++) adjoints.add(marchAlong(j, n));
        return stepsAgain(n, s);
    }

    int arrived(int j) {
        return j < 0 || j >= arrived.size() ? REFUSED : arrived.get(j).intValue();
    }

    int adjoint(int j) {
        return j < 0 || j >= adjoints.size() ? REFUSED : adjoints.get(j).intValue();
    }

    /** The expressions of all steps put into one another, with t added to input j of the first. */
    private long marchAlong(int j, int n) {
        List<long[][]> at = seriesAt(point, 0, 1);
        at.get(j)[0][1] = 1;
        for (int step = 0; step < n; step++) {
            long[][][] series = seriesOf(at, 0, 1);
            List<long[][]> next = new ArrayList<>();
            for (int node : outputs) next.add(series[node]);
            at = next;
        }
        long sum = 0;
        for (int i = 0; i < outputs.size(); i++) sum = number(sum + weights.get(i) * at.get(i)[0][1]);
        return sum;
    }

    private static final int[][] STEPS_AGAIN = new int[21][6];

    static int stepsAgain(int n, int s) {
        if (n == 1) return 0;
        if (s == 1) return n * (n - 1) / 2;
        if (STEPS_AGAIN[n][s] != 0) return STEPS_AGAIN[n][s];
        int least = Integer.MAX_VALUE;
        for (int k = 1; k < n; k++) least = Math.min(least, k + stepsAgain(n - k, s - 1) + stepsAgain(k, s));
        STEPS_AGAIN[n][s] = least;
        return least;
    }

    boolean hasNode(int node) {
        return node >= 0 && node < nodes.size();
    }

    boolean hasInput(int j) {
        return j >= 0 && j < point.size();
    }

    boolean hasOutput(int i) {
        return i >= 0 && i < outputs.size();
    }

    private long valueOf(int node, List<Long> at) {
        return valuesAt(at)[node];
    }

    private long[] valuesAt(List<Long> at) {
        long[] values = new long[nodes.size()];
        for (int m = 0; m < values.length; m++) {
            Node node = nodes.get(m);
            long a = node.isOperation() ? values[node.a] : 0;
            long b = node.hasSecond() ? values[node.b] : 0;
            if (a == UNDEFINED || b == UNDEFINED || node.kind == 3 && b == 0) {
                values[m] = UNDEFINED;
                continue;
            }
            values[m] = switch (node.kind) {
                case 0 -> number(a + b);
                case 1 -> number(a - b);
                case 2 -> number(a * b);
                case 3 -> number(a * inverse(b));
                case 4 -> Math.min(a, b);
                case 5 -> Math.max(a, b);
                case 6 -> BigInteger.valueOf(a).pow(node.b).mod(BigInteger.valueOf(P)).longValue();
                case 'i' -> at.get(node.a);
                default -> node.number;
            };
        }
        return values;
    }

    private static long inverse(long b) {
        return BigInteger.valueOf(b).modInverse(BigInteger.valueOf(P)).longValue();
    }

    private int state(int asked, List<Long> at) {
        long[] values = valuesAt(at);
        if (values[asked] == UNDEFINED) return UNDEFINED;
        return isRough(asked, values) ? ROUGH : 0;
    }

    private boolean isRough(int asked, long[] values) {
        Node node = nodes.get(asked);
        if (!node.isOperation()) return false;
        if ((node.kind == 4 || node.kind == 5) && values[node.a] == values[node.b]) return true;
        return isRough(node.a, values) || node.hasSecond() && isRough(node.b, values);
    }

    private static List<long[][]> seriesAt(List<Long> point, int topS, int topT) {
        List<long[][]> at = new ArrayList<>();
        for (long number : point) {
            long[][] series = new long[topS + 1][topT + 1];
            series[0][0] = number;
            at.add(series);
        }
        return at;
    }

    /** The series of all nodes; that of a node that is undefined is null. */
    private long[][][] seriesOf(List<long[][]> at, int topS, int topT) {
        long[][][] all = new long[nodes.size()][][];
        for (int m = 0; m < all.length; m++) {
            Node node = nodes.get(m);
            long[][] a = node.isOperation() ? all[node.a] : null;
            long[][] b = node.hasSecond() ? all[node.b] : a;
            if (node.isOperation() && (a == null || b == null)) continue;
            all[m] = switch (node.kind) {
                case 0 -> plus(a, b, 1);
                case 1 -> plus(a, b, -1);
                case 2 -> times(a, b);
                case 3 -> b[0][0] == 0 ? null : times(a, oneOver(b));
                case 4 -> a[0][0] < b[0][0] ? a : b;
                case 5 -> a[0][0] > b[0][0] ? a : b;
                case 6 -> power(a, node.b);
                case 'i' -> at.get(node.a);
                default -> constantLike(new long[topS + 1][topT + 1], node.number);
            };
        }
        return all;
    }

    private static long[][] constantLike(long[][] form, long number) {
        long[][] series = new long[form.length][form[0].length];
        series[0][0] = number;
        return series;
    }

    private static long[][] plus(long[][] a, long[][] b, int sign) {
        long[][] sum = constantLike(a, 0);
        for (int p = 0; p < a.length; p++) {
            for (int q = 0; q < a[0].length; q++) sum[p][q] = number(a[p][q] + sign * b[p][q]);
        }
        return sum;
    }

    private static long[][] times(long[][] a, long[][] b) {
        long[][] product = constantLike(a, 0);
        for (int p = 0; p < a.length; p++) {
            for (int q = 0; q < a[0].length; q++) {
                for (int u = 0; u <= p; u++) {
                    for (int v = 0; v <= q; v++) {
                        product[p][q] = number(product[p][q] + a[u][v] * b[p - u][q - v]);
                    }
                }
            }
        }
        return product;
    }

    private static long[][] power(long[][] a, int exponent) {
        long[][] result = constantLike(a, 1);
        for (int e = 0; e < exponent; e++) result = times(result, a);
        return result;
    }

    /** 1 / b by Newton's rule, each turn of which doubles the coefficients that are right. */
    private static long[][] oneOver(long[][] b) {
        long[][] result = constantLike(b, inverse(b[0][0]));
        for (int turn = 0; turn < 5; turn++) {
            result = times(result, plus(constantLike(b, 2), times(b, result), -1));
        }
        return result;
    }

    private boolean nodeDepends(int asked, int j) {
        Node node = nodes.get(asked);
        if (node.kind == 'i') return node.a == j;
        if (node.kind == 'c' || node.kind == 6 && node.b == 0) return false;
        return nodeDepends(node.a, j) || node.hasSecond() && nodeDepends(node.b, j);
    }

    private boolean conflict(int j, int k) {
        for (int node : outputs) {
            if (nodeDepends(node, j) && nodeDepends(node, k)) return true;
        }
        return false;
    }

    private boolean isFolded(int asked) {
        Node node = nodes.get(asked);
        if (!node.isOperation()) return node.kind == 'c';
        return isFolded(node.a) && (!node.hasSecond() || isFolded(node.b)) && value(asked) != UNDEFINED;
    }

    private boolean alike(int one, int other) {
        if (one == other) return true;
        if (isFolded(one) != isFolded(other)) return false;
        if (isFolded(one)) return value(one) == value(other);
        Node x = nodes.get(one);
        Node y = nodes.get(other);
        if (!x.isOperation() || x.kind != y.kind) return false;
        if (x.kind == 6) return x.b == y.b && alike(x.a, y.a);
        if (alike(x.a, y.a) && alike(x.b, y.b)) return true;
        boolean crosswise = x.kind == 0 || x.kind == 2 || x.kind == 4 || x.kind == 5;
        return crosswise && alike(x.a, y.b) && alike(x.b, y.a);
    }

    private void enliven(int asked, boolean[] live) {
        if (live[asked]) return;
        live[asked] = true;
        Node node = nodes.get(asked);
        if (!node.isOperation() || isFolded(asked)) return;
        enliven(node.a, live);
        if (node.hasSecond()) enliven(node.b, live);
    }
}
