import java.util.Arrays;

/**
 * Records numerical programs as a tape of operations over the numbers modulo a prime and
 * differentiates them exactly. The document's promises are the contract; README.md shows the use.
 */
public final class DerivativeTape {

    public static final int UNDEFINED = -1;
    public static final int ROUGH = -2;
    public static final int REFUSED = -3;

    /** The state of a node that is neither undefined nor rough. */
    private static final int SMOOTH = 0;

    private static final int PRIME = 65521;
    /** A number that is not 0, raised to this, is one divided by it (Fermat's little theorem). */
    private static final int INVERTING = PRIME - 2;

    private static final int MOST_NODES = 24;
    private static final int MOST_INPUTS = 5;
    private static final int MOST_OUTPUTS = 5;
    private static final int MOST_EXPONENT = 9;
    private static final int MOST_ORDER = 8;
    private static final int MOST_STEPS = 20;
    private static final int MOST_SNAPSHOTS = 5;

    private static final int ADD = 0;
    private static final int SUB = 1;
    private static final int MUL = 2;
    private static final int DIV = 3;
    private static final int MIN = 4;
    private static final int MAX = 5;
    private static final int POWER = 6;
    /** The kinds of the nodes that are no operations stand behind those of the operations. */
    private static final int INPUT = 7;
    private static final int CONSTANT = 8;

    private final Program program = new Program();
    private final Sweep sweep = new Sweep();
    private final BackSweep backSweep = new BackSweep();
    private final Shrinking shrinking = new Shrinking();
    private final Snapshots snapshots = new Snapshots();

    private final int[] pointNumbers = new int[MOST_INPUTS];
    private final int[] directionNumbers = new int[MOST_INPUTS];
    private final int[] seedNumbers = new int[MOST_INPUTS];
    private final int[] colourNumbers = new int[MOST_INPUTS];

    private final int[] outputNodes = new int[MOST_OUTPUTS];
    private final int[] weightNumbers = new int[MOST_OUTPUTS];
    private int outputCount;

    /** The lists of numbers that a march comes through; the march's point is the first one. */
    private final int[][] stations = new int[MOST_STEPS + 1][MOST_INPUTS];
    private final int[] arrivedNumbers = new int[MOST_INPUTS];
    private final int[] adjointNumbers = new int[MOST_INPUTS];
    /** The length of the lists of the latest march that went through; 0 when there was none. */
    private int marchedLength;

    public DerivativeTape() {
    }

    public int input() {
        if (program.isFull() || program.inputs == MOST_INPUTS) {
            return REFUSED;
        }
        return program.addInput();
    }

    public int constant(int v) {
        if (program.isFull()) {
            return REFUSED;
        }
        return program.addConstant(Numbers.standFor(v));
    }

    public int operation(int kind, int a, int b) {
        if (kind < ADD || kind > POWER || !program.hasNode(a) || program.isFull()) {
            return REFUSED;
        }
        if (kind == POWER) {
            return b < 0 || b > MOST_EXPONENT ? REFUSED : program.addOperation(POWER, a, a, b);
        }
        return program.hasNode(b) ? program.addOperation(kind, a, b, 0) : REFUSED;
    }

    public int output(int node) {
        if (!program.hasNode(node) || outputCount == MOST_OUTPUTS) {
            return REFUSED;
        }
        outputNodes[outputCount] = node;
        outputCount++;
        return outputCount - 1;
    }

    public boolean point(int j, int v) {
        if (!program.hasInput(j)) {
            return false;
        }
        pointNumbers[j] = Numbers.standFor(v);
        return true;
    }

    public boolean direction(int j, int v) {
        if (!program.hasInput(j)) {
            return false;
        }
        directionNumbers[j] = Numbers.standFor(v);
        return true;
    }

    public boolean weight(int i, int v) {
        if (!hasOutput(i)) {
            return false;
        }
        weightNumbers[i] = Numbers.standFor(v);
        return true;
    }

    public int value(int node) {
        if (!program.hasNode(node)) {
            return REFUSED;
        }
        sweep.run(program, pointNumbers, directionNumbers, 0);
        return sweep.states[node] == UNDEFINED ? UNDEFINED : sweep.rows[node][0];
    }

    public int forward(int i) {
        return hasOutput(i) ? coefficient(i, directionNumbers, 1) : REFUSED;
    }

    public int reverse(int j) {
        if (!program.hasInput(j)) {
            return REFUSED;
        }
        sweep.run(program, pointNumbers, directionNumbers, 0);
        int state = worstState(true);
        if (state != SMOOTH) {
            return state;
        }
        handBack(weightNumbers);
        return backSweep.shares[program.inputNodes[j]];
    }

    public int taylor(int i, int k) {
        if (!hasOutput(i) || k < 0 || k > MOST_ORDER) {
            return REFUSED;
        }
        return coefficient(i, directionNumbers, k);
    }

    public int second(int i, int j, int k) {
        if (!hasOutput(i) || !program.hasInput(j) || !program.hasInput(k)) {
            return REFUSED;
        }
        // With j and k moved together, t * t has the squares of both and the mixed term: the
        // squares are taken off again. For j = k the seed is 2, and 4 - 1 - 1 squares stay.
        clearSeed();
        seedNumbers[j]++;
        seedNumbers[k]++;
        int together = coefficient(i, seedNumbers, 2);
        if (sweep.states[outputNodes[i]] != SMOOTH) {
            return together;
        }
        int squares = coefficientByInput(i, j, 2) + coefficientByInput(i, k, 2);
        return Numbers.standFor((long) together - squares);
    }

    public boolean depends(int i, int j) {
        return hasOutput(i) && program.hasInput(j) && program.reaches(outputNodes[i], j);
    }

    public int colour(int j) {
        if (!program.hasInput(j)) {
            return REFUSED;
        }
        paintInputs();
        return colourNumbers[j];
    }

    public int colours() {
        paintInputs();
        int used = 0;
        for (int j = 0; j < program.inputs; j++) {
            // A colour is only taken when all smaller ones are, so the greatest tells the number.
            used = Math.max(used, colourNumbers[j] + 1);
        }
        return used;
    }

    public int entry(int i, int j) {
        if (!hasOutput(i) || !program.hasInput(j)) {
            return REFUSED;
        }
        return coefficientByInput(i, j, 1);
    }

    public int size() {
        sweep.run(program, pointNumbers, directionNumbers, 0);
        return shrinking.count(program, sweep, outputNodes, outputCount);
    }

    public int march(int n, int s) {
        if (outputCount == 0 || outputCount != program.inputs) {
            return REFUSED;
        }
        if (n < 1 || n > MOST_STEPS || s < 1 || s > MOST_SNAPSHOTS) {
            return REFUSED;
        }
        int state = goAhead(n);
        if (state != SMOOTH) {
            return state;
        }
        goBack(n);
        return snapshots.stepsAgain(n, s);
    }

    public int arrived(int j) {
        return j < 0 || j >= marchedLength ? REFUSED : arrivedNumbers[j];
    }

    public int adjoint(int j) {
        return j < 0 || j >= marchedLength ? REFUSED : adjointNumbers[j];
    }

    private boolean hasOutput(int i) {
        return i >= 0 && i < outputCount;
    }

    /** The coefficient of an output along the numbers given, or the output's state. */
    private int coefficient(int i, int[] along, int order) {
        sweep.run(program, pointNumbers, along, order);
        int node = outputNodes[i];
        return sweep.states[node] == SMOOTH ? sweep.rows[node][order] : sweep.states[node];
    }

    private int coefficientByInput(int i, int j, int order) {
        clearSeed();
        seedNumbers[j] = 1;
        return coefficient(i, seedNumbers, order);
    }

    private void clearSeed() {
        Arrays.fill(seedNumbers, 0);
    }

    private int worstState(boolean ofWeightedAlone) {
        int state = SMOOTH;
        for (int i = 0; i < outputCount; i++) {
            if (!ofWeightedAlone || weightNumbers[i] != 0) {
                state = Sweep.worse(state, sweep.states[outputNodes[i]]);
            }
        }
        return state;
    }

    /** Goes back from shares of the outputs to those of the inputs, by the latest sweep. */
    private void handBack(int[] outputShares) {
        backSweep.clear();
        for (int i = 0; i < outputCount; i++) {
            backSweep.give(outputNodes[i], outputShares[i]);
        }
        backSweep.run(program, sweep);
    }

    private void paintInputs() {
        for (int j = 0; j < program.inputs; j++) {
            int taken = 0;
            for (int k = 0; k < j; k++) {
                if (inConflict(j, k)) {
                    taken |= 1 << colourNumbers[k];
                }
            }
            colourNumbers[j] = leastFree(taken);
        }
    }

    private static int leastFree(int taken) {
        int free = 0;
        while (free < MOST_INPUTS && (taken >> free & 1) != 0) {
            free++;
        }
        return free;
    }

    private boolean inConflict(int j, int k) {
        for (int i = 0; i < outputCount; i++) {
            if (program.reaches(outputNodes[i], j) && program.reaches(outputNodes[i], k)) {
                return true;
            }
        }
        return false;
    }

    /** Fills the stations of a march; answers the state of the first step that is not smooth. */
    private int goAhead(int steps) {
        System.arraycopy(pointNumbers, 0, stations[0], 0, MOST_INPUTS);
        for (int step = 0; step < steps; step++) {
            sweep.run(program, stations[step], directionNumbers, 0);
            int state = worstState(false);
            if (state != SMOOTH) {
                return state;
            }
            for (int i = 0; i < outputCount; i++) {
                stations[step + 1][i] = sweep.rows[outputNodes[i]][0];
            }
        }
        return SMOOTH;
    }

    /** Takes the weights back through the stations and keeps both ends of the march. */
    private void goBack(int steps) {
        marchedLength = outputCount;
        System.arraycopy(stations[steps], 0, arrivedNumbers, 0, marchedLength);
        System.arraycopy(weightNumbers, 0, adjointNumbers, 0, marchedLength);
        for (int step = steps - 1; step >= 0; step--) {
            sweep.run(program, stations[step], directionNumbers, 0);
            handBack(adjointNumbers);
            for (int j = 0; j < marchedLength; j++) {
                adjointNumbers[j] = backSweep.shares[program.inputNodes[j]];
            }
        }
    }

    /** The arithmetic modulo the prime, over the numbers 0 .. PRIME - 1. */
    private static final class Numbers {

        static int standFor(long v) {
            int rest = (int) (v % PRIME);
            return rest < 0 ? rest + PRIME : rest;
        }

        static int times(int a, int b) {
            return (int) ((long) a * b % PRIME);
        }

        static int raise(int base, int exponent) {
            long result = 1;
            long square = base;
            for (int rest = exponent; rest > 0; rest >>= 1) {
                if ((rest & 1) != 0) {
                    result = result * square % PRIME;
                }
                square = square * square % PRIME;
            }
            return (int) result;
        }
    }

    /** The nodes in the order in which they were made. */
    private static final class Program {
        int nodes;
        int inputs;
        final int[] kinds = new int[MOST_NODES];
        /** The operands of operations; a POWER has its one operand in both places. */
        final int[] firsts = new int[MOST_NODES];
        final int[] seconds = new int[MOST_NODES];
        /** An input's number among the inputs, a constant's number, a POWER's exponent, else 0. */
        final int[] details = new int[MOST_NODES];
        /** Bit j tells whether the node depends on input j. */
        final int[] reach = new int[MOST_NODES];
        final int[] inputNodes = new int[MOST_INPUTS];

        boolean isFull() {
            return nodes == MOST_NODES;
        }

        boolean hasNode(int node) {
            return node >= 0 && node < nodes;
        }

        boolean hasInput(int j) {
            return j >= 0 && j < inputs;
        }

        boolean isOperation(int node) {
            return kinds[node] <= POWER;
        }

        boolean reaches(int node, int j) {
            return (reach[node] >> j & 1) != 0;
        }

        int addInput() {
            int node = add(INPUT, inputs);
            reach[node] = 1 << inputs;
            inputNodes[inputs] = node;
            inputs++;
            return node;
        }

        int addConstant(int number) {
            return add(CONSTANT, number);
        }

        int addOperation(int kind, int first, int second, int exponent) {
            int node = add(kind, exponent);
            firsts[node] = first;
            seconds[node] = second;
            boolean reachesNothing = kind == POWER && exponent == 0;
            reach[node] = reachesNothing ? 0 : reach[first] | reach[second];
            return node;
        }

        private int add(int kind, int detail) {
            kinds[nodes] = kind;
            details[nodes] = detail;
            nodes++;
            return nodes - 1;
        }
    }

    /** Carries power series, up to an order, through all nodes; order 0 is the values alone. */
    private static final class Sweep {
        /** Row by node: its coefficients; those of an undefined node mean nothing. */
        final int[][] rows = new int[MOST_NODES][MOST_ORDER + 1];
        final int[] states = new int[MOST_NODES];

        static int worse(int one, int other) {
            if (one == UNDEFINED || other == UNDEFINED) {
                return UNDEFINED;
            }
            return one == ROUGH || other == ROUGH ? ROUGH : SMOOTH;
        }

        void run(Program program, int[] at, int[] along, int order) {
            for (int node = 0; node < program.nodes; node++) {
                if (program.isOperation(node)) {
                    states[node] = findState(program, node);
                    if (states[node] != UNDEFINED) {
                        operate(program, node, order);
                    }
                } else {
                    states[node] = SMOOTH;
                    begin(program, node, at, along);
                }
            }
        }

        /** The operand whose value a MIN or MAX has. */
        int findChosen(Program program, int node) {
            int first = program.firsts[node];
            int second = program.seconds[node];
            boolean firstIsLess = rows[first][0] < rows[second][0];
            return firstIsLess == (program.kinds[node] == MIN) ? first : second;
        }

        private int findState(Program program, int node) {
            int first = program.firsts[node];
            int second = program.seconds[node];
            int kind = program.kinds[node];
            int state = worse(states[first], states[second]);
            if (state == UNDEFINED || kind == DIV && rows[second][0] == 0) {
                return UNDEFINED;
            }
            boolean chooses = kind == MIN || kind == MAX;
            return chooses && rows[first][0] == rows[second][0] ? ROUGH : state;
        }

        /** The coefficients that inputs and constants have not are 0 from the start, and stay so. */
        private void begin(Program program, int node, int[] at, int[] along) {
            int[] row = rows[node];
            int detail = program.details[node];
            if (program.kinds[node] == CONSTANT) {
                row[0] = detail;
            } else {
                row[0] = at[detail];
                row[1] = along[detail];
            }
        }

        private void operate(Program program, int node, int order) {
            int[] row = rows[node];
            int[] first = rows[program.firsts[node]];
            int[] second = rows[program.seconds[node]];
            switch (program.kinds[node]) {
                case ADD:
                    addUp(row, first, second, 1, order);
                    break;
                case SUB:
                    addUp(row, first, second, -1, order);
                    break;
                case MUL:
                    System.arraycopy(first, 0, row, 0, order + 1);
                    multiplyBy(row, second, order);
                    break;
                case DIV:
                    divide(row, first, second, order);
                    break;
                case POWER:
                    raiseRow(row, first, program.details[node], order);
                    break;
                default:
                    System.arraycopy(rows[findChosen(program, node)], 0, row, 0, order + 1);
                    break;
            }
        }

        private static void addUp(int[] row, int[] first, int[] second, int sign, int order) {
            for (int k = 0; k <= order; k++) {
                row[k] = Numbers.standFor(first[k] + sign * second[k]);
            }
        }

        /** Goes from the highest coefficient down, so that those still needed are the old ones. */
        private static void multiplyBy(int[] row, int[] factor, int order) {
            for (int k = order; k >= 0; k--) {
                long sum = 0;
                for (int m = 0; m <= k; m++) {
                    sum += (long) row[m] * factor[k - m];
                }
                row[k] = (int) (sum % PRIME);
            }
        }

        private static void divide(int[] row, int[] upper, int[] lower, int order) {
            int inverse = Numbers.raise(lower[0], INVERTING);
            for (int k = 0; k <= order; k++) {
                long rest = upper[k];
                for (int m = 1; m <= k; m++) {
                    rest -= (long) lower[m] * row[k - m];
                }
                row[k] = Numbers.times(Numbers.standFor(rest), inverse);
            }
        }

        private static void raiseRow(int[] row, int[] base, int exponent, int order) {
            Arrays.fill(row, 0);
            row[0] = 1;
            // The exponents up to 9 have four binary places.
            for (int place = 8; place > 0; place >>= 1) {
                multiplyBy(row, row, order);
                if ((exponent & place) != 0) {
                    multiplyBy(row, base, order);
                }
            }
        }
    }

    /** Hands shares back from nodes to their operands, as the values of a sweep ask for. */
    private static final class BackSweep {
        final int[] shares = new int[MOST_NODES];

        void clear() {
            Arrays.fill(shares, 0);
        }

        void give(int node, int share) {
            shares[node] = Numbers.standFor(shares[node] + share);
        }

        void run(Program program, Sweep sweep) {
            for (int node = program.nodes - 1; node >= 0; node--) {
                // A node without a share has nothing to hand on, and only such a one is undefined.
                if (shares[node] != 0 && program.isOperation(node)) {
                    handOn(program, sweep, node);
                }
            }
        }

        private void handOn(Program program, Sweep sweep, int node) {
            int first = program.firsts[node];
            int second = program.seconds[node];
            int share = shares[node];
            switch (program.kinds[node]) {
                case ADD:
                    give(first, share);
                    give(second, share);
                    break;
                case SUB:
                    give(first, share);
                    give(second, -share);
                    break;
                case MUL:
                    give(first, Numbers.times(share, sweep.rows[second][0]));
                    give(second, Numbers.times(share, sweep.rows[first][0]));
                    break;
                case DIV:
                    int inverse = Numbers.raise(sweep.rows[second][0], INVERTING);
                    int part = Numbers.times(share, inverse);
                    give(first, part);
                    give(second, -Numbers.times(part, sweep.rows[node][0]));
                    break;
                case POWER:
                    int slope = findSlope(sweep.rows[first][0], program.details[node]);
                    give(first, Numbers.times(share, slope));
                    break;
                default:
                    give(sweep.findChosen(program, node), share);
                    break;
            }
        }

        private static int findSlope(int base, int exponent) {
            return exponent == 0 ? 0 : Numbers.times(exponent, Numbers.raise(base, exponent - 1));
        }
    }

    /** Counts the live nodes that are not alike. */
    private static final class Shrinking {
        private final boolean[] folded = new boolean[MOST_NODES];
        private final boolean[] live = new boolean[MOST_NODES];
        private final boolean[] counted = new boolean[MOST_NODES];
        /** The first node that a node is alike to: alike nodes have the same one. */
        private final int[] models = new int[MOST_NODES];

        int count(Program program, Sweep sweep, int[] outputNodes, int outputCount) {
            for (int node = 0; node < program.nodes; node++) {
                folded[node] = isFolded(program, sweep, node);
                models[node] = findModel(program, sweep, node);
                live[node] = false;
                counted[node] = false;
            }
            for (int i = 0; i < outputCount; i++) {
                live[outputNodes[i]] = true;
            }
            int total = 0;
            for (int node = program.nodes - 1; node >= 0; node--) {
                if (live[node]) {
                    enliven(program, node);
                    total += counted[models[node]] ? 0 : 1;
                    counted[models[node]] = true;
                }
            }
            return total;
        }

        private boolean isFolded(Program program, Sweep sweep, int node) {
            if (!program.isOperation(node)) {
                return program.kinds[node] == CONSTANT;
            }
            return folded[program.firsts[node]] && folded[program.seconds[node]]
                && sweep.states[node] != UNDEFINED;
        }

        private int findModel(Program program, Sweep sweep, int node) {
            for (int other = 0; other < node; other++) {
                if (areAlike(program, sweep, other, node)) {
                    return other;
                }
            }
            return node;
        }

        /** For two different nodes, the models of whose operands are known. */
        private boolean areAlike(Program program, Sweep sweep, int one, int other) {
            if (folded[one] || folded[other]) {
                return folded[one] && folded[other] && sweep.rows[one][0] == sweep.rows[other][0];
            }
            int kind = program.kinds[one];
            if (kind == INPUT || kind != program.kinds[other]
                || program.details[one] != program.details[other]) {
                return false;
            }
            int first = models[program.firsts[one]];
            int second = models[program.seconds[one]];
            int otherFirst = models[program.firsts[other]];
            int otherSecond = models[program.seconds[other]];
            boolean crosswise = kind == ADD || kind == MUL || kind == MIN || kind == MAX;
            return first == otherFirst && second == otherSecond
                || crosswise && first == otherSecond && second == otherFirst;
        }

        private void enliven(Program program, int node) {
            if (program.isOperation(node) && !folded[node]) {
                live[program.firsts[node]] = true;
                live[program.seconds[node]] = true;
            }
        }
    }

    /** How many steps must be gone again to go back through n steps with s snapshots. */
    private static final class Snapshots {
        private final int[][] again = new int[MOST_SNAPSHOTS + 1][MOST_STEPS + 1];
        private boolean known;

        int stepsAgain(int n, int s) {
            if (!known) {
                fillTable();
                known = true;
            }
            return again[s][n];
        }

        private void fillTable() {
            for (int n = 1; n <= MOST_STEPS; n++) {
                again[1][n] = n * (n - 1) / 2;
            }
            for (int s = 2; s <= MOST_SNAPSHOTS; s++) {
                for (int n = 2; n <= MOST_STEPS; n++) {
                    again[s][n] = findLeast(n, s);
                }
            }
        }

        private int findLeast(int n, int s) {
            int least = Integer.MAX_VALUE;
            for (int k = 1; k < n; k++) {
                least = Math.min(least, k + again[s - 1][n - k] + again[s][k]);
            }
            return least;
        }
    }
}
