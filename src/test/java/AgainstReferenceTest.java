/** Long mixed runs of calls, each answered by the program and by the reference. */
public final class AgainstReferenceTest {
    private static final int RUNS = 1200;
    /** An object is used for so many calls. */
    private static final int MOST_CALLS = 512;
    /** One round of questions asks at most so many: everything once, and a march with its answers. */
    private static final int CALLS_OF_EVERYTHING = 232;
    private static final int CALLS_OF_MARCH = 15;
    private static final int[] NUMBERS = {
        0, 1, 2, 3, 4, 5, 7, -1, -2, 65520, 65521, 65522, 65519, -65521, 131042, 32761,
        Integer.MAX_VALUE, Integer.MIN_VALUE, 12345, 54321
    };

    /** A plain chain of pseudo-random numbers, so that every run is the same everywhere. */
    private static long chain = 88172645463325252L;

    private final DerivativeTape tape = new DerivativeTape();
    private final Reference reference = new Reference();
    private final StringBuilder told = new StringBuilder();
    private int nodes = 0;
    private int outputs = 0;
    private int inputs = 0;
    private int calls = 0;

    public static void main(String[] args) {
        for (int run = 0; run < RUNS && Check.allAsDue(); run++) {
            AgainstReferenceTest test = new AgainstReferenceTest();
            test.run(run);
            if (!Check.allAsDue()) System.out.println("in run " + run + ":\n" + test.told);
        }
        Check.finish();
    }

    private static int any(int bound) {
        chain ^= chain << 13;
        chain ^= chain >>> 7;
        chain ^= chain << 17;
        return (int) Math.floorMod(chain >>> 11, (long) bound);
    }

    private static int anyNumber(boolean small) {
        if (small) return any(4);
        return any(3) == 0 ? any(1 << 20) - (1 << 19) : NUMBERS[any(NUMBERS.length)];
    }

    /** Mostly one of those that there are, now and then one beyond either end. */
    private static int anyOf(int count) {
        int roll = any(30);
        if (roll == 0) return -1;
        if (roll == 1) return count;
        if (roll == 2) return any(2) == 0 ? Integer.MIN_VALUE : Integer.MAX_VALUE;
        return count == 0 ? 0 : any(count);
    }

    private void run(int run) {
        boolean small = run % 3 == 0;
        int most = 1 + any(24);
        int mostInputs = any(6);
        boolean square = run % 2 == 0;
        for (int j = 0; j < mostInputs && any(4) > 0; j++) makeInput();
        for (int turn = 0; turn < 120 && calls + CALLS_OF_MARCH + CALLS_OF_EVERYTHING < MOST_CALLS; turn++) {
            if (nodes < most && any(2) == 0) {
                makeNode(small, mostInputs);
            } else if (any(10) == 0 || square && nodes > 0 && outputs < inputs && any(3) == 0) {
                makeOutput();
            } else {
                askOrSet(small);
            }
        }
        askEverything();
        while (calls + CALLS_OF_MARCH <= MOST_CALLS) askOrSet(small);
        while (calls < MOST_CALLS) askValue(anyOf(nodes));
        Check.due("calls of a run", calls, MOST_CALLS);
    }

    private void see(String call, long got, long want) {
        calls++;
        told.append(call).append(" = ").append(got).append('\n');
        Check.due(call, got, want);
    }

    private void see(String call, boolean got, boolean want) {
        see(call, got ? 1 : 0, want ? 1 : 0);
    }

    private void makeInput() {
        int want = reference.input();
        see("input()", tape.input(), want);
        if (want >= 0) {
            nodes++;
            inputs++;
        }
    }

    private void makeNode(boolean small, int mostInputs) {
        int roll = any(8);
        if (roll == 0 && (inputs < mostInputs || any(8) == 0)) {
            makeInput();
        } else if (roll <= 1) {
            int v = anyNumber(small);
            int want = reference.constant(v);
            see("constant(" + v + ")", tape.constant(v), want);
            if (want >= 0) nodes++;
        } else {
            makeOperation();
        }
    }

    private void makeOperation() {
        int kind = any(40) == 0 ? any(12) - 3 : any(7);
        int a = anyOf(nodes);
        int b = kind == 6 ? anyOf(10) : anyOf(nodes);
        int want = reference.operation(kind, a, b);
        see("operation(" + kind + ", " + a + ", " + b + ")", tape.operation(kind, a, b), want);
        if (want >= 0) nodes++;
    }

    private void makeOutput() {
        int node = any(3) == 0 ? anyOf(nodes) : nodes - 1 - any(Math.min(nodes, 4) + 1);
        int want = reference.output(node);
        see("output(" + node + ")", tape.output(node), want);
        if (want >= 0) outputs++;
    }

    private void askOrSet(boolean small) {
        int i = anyOf(outputs);
        int j = anyOf(inputs);
        int k = anyOf(inputs);
        int v = anyNumber(small);
        switch (any(14)) {
            case 0, 1, 2 -> see("point(" + j + ", " + v + ")", tape.point(j, v), reference.point(j, v));
            case 3 -> see("direction(" + j + ", " + v + ")", tape.direction(j, v), reference.direction(j, v));
            case 4, 5 -> see("weight(" + i + ", " + v + ")", tape.weight(i, v), reference.weight(i, v));
            case 6 -> see("second(" + i + ", " + j + ", " + k + ")", tape.second(i, j, k), reference.second(i, j, k));
            case 7 -> see("forward(" + i + ")", tape.forward(i), reference.forward(i));
            case 8 -> see("reverse(" + j + ")", tape.reverse(j), reference.reverse(j));
            case 9 -> askTaylor(i, anyOf(9));
            case 10 -> see("entry(" + i + ", " + j + ")", tape.entry(i, j), reference.entry(i, j));
            case 11 -> askMarch(anyOf(21), anyOf(6));
            case 12 -> askValue(anyOf(nodes));
            default -> see("size()", tape.size(), reference.size());
        }
    }

    private void askTaylor(int i, int k) {
        see("taylor(" + i + ", " + k + ")", tape.taylor(i, k), reference.taylor(i, k));
    }

    private void askValue(int node) {
        see("value(" + node + ")", tape.value(node), reference.value(node));
    }

    private void askMarch(int n, int s) {
        see("march(" + n + ", " + s + ")", tape.march(n, s), reference.march(n, s));
        for (int j = -1; j <= 5; j++) {
            see("arrived(" + j + ")", tape.arrived(j), reference.arrived(j));
            see("adjoint(" + j + ")", tape.adjoint(j), reference.adjoint(j));
        }
    }

    private void askEverything() {
        for (int node = -1; node <= nodes; node++) askValue(node);
        for (int j = -1; j <= inputs; j++) {
            see("colour(" + j + ")", tape.colour(j), reference.colour(j));
            see("reverse(" + j + ")", tape.reverse(j), reference.reverse(j));
        }
        see("colours()", tape.colours(), reference.colours());
        for (int i = -1; i <= outputs; i++) {
            for (int k = -1; k <= 9; k++) askTaylor(i, k);
            for (int j = -1; j <= inputs; j++) {
                see("depends(" + i + ", " + j + ")", tape.depends(i, j), reference.depends(i, j));
                see("entry(" + i + ", " + j + ")", tape.entry(i, j), reference.entry(i, j));
            }
        }
        see("size()", tape.size(), reference.size());
        askMarch(1 + any(20), 1 + any(5));
    }
}
