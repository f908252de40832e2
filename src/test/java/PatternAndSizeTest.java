/** PATTERN and SIZE among the "Terms": a test of its own for each sentence that names a boundary case. */
public final class PatternAndSizeTest extends Sentences {

    public static void main(String[] args) {
        ownNode();
        operandsDepend();
        powerZeroDependsOnNothing();
        conflict();
        leastColour();
        folded();
        undefinedIsNotFolded();
        foldedWhateverThePoint();
        foldedAlike();
        foldedAndNotFolded();
        sameKindAndOperands();
        sameExponent();
        crosswise();
        aliveByOutputs();
        operandsOfFoldedNodes();
        Check.finish();
    }

    private static void ownNode() {
        sentence("Output i DEPENDS on input j if it is that input's node");
        DerivativeTape x = withConstants(2);
        for (int j = 0; j < 5; j++) x.input();
        for (int j = 4; j >= 0; j--) x.output(2 + j);
        for (int i = 0; i < 5; i++) {
            for (int j = 0; j < 5; j++) due("depends(" + i + ", " + j + ")", x.depends(i, j), i + j == 4);
        }
        DerivativeTape constant = withInputs(1);
        constant.constant(1);
        constant.output(1);
        due("a constant depends on nothing", constant.depends(0, 0), false);
    }

    private static void operandsDepend() {
        sentence("or its node is an operation one of whose operands depends on j in this way, and so on");
        for (int kind = ADD; kind <= MAX; kind++) {
            DerivativeTape x = withInputs(0, 0, 0);
            x.constant(0);
            x.operation(kind, 1, 3);
            x.operation(kind, 3, 2);
            x.operation(kind, 4, 4);
            x.operation(kind, 6, 5);
            for (int node = 3; node <= 7; node++) x.output(node);
            boolean[][] due = {
                {false, false, false}, {false, true, false}, {false, false, true}, {false, true, false}, {false, true, true}
            };
            for (int i = 0; i < 5; i++) {
                for (int j = 0; j < 3; j++) due("kind " + kind + ", depends(" + i + ", " + j + ")", x.depends(i, j), due[i][j]);
            }
        }
        DerivativeTape chain = withInputs(1);
        for (int node = 1; node < 24; node++) chain.operation(POWER, node - 1, 1);
        chain.output(23);
        due("through 24 nodes", chain.depends(0, 0), true);
        DerivativeTape gone = withInputs(3, 4);
        gone.operation(SUB, 0, 0);
        gone.operation(MIN, 0, 1);
        gone.output(2);
        gone.output(3);
        due("x - x depends, though its derivative is 0", gone.depends(0, 0), true);
        due("its derivative", gone.entry(0, 0), 0);
        due("the operand that is not chosen", gone.depends(1, 1), true);
    }

    private static void powerZeroDependsOnNothing() {
        sentence("a POWER with the exponent 0 depends on nothing.");
        DerivativeTape x = withInputs(2, 3);
        x.operation(POWER, 0, 0);
        x.operation(ADD, 2, 1);
        x.operation(POWER, 3, 0);
        x.operation(ADD, 2, 0);
        x.operation(POWER, 0, 1);
        int[] nodes = {2, 3, 4, 5, 6};
        boolean[][] due = {{false, false}, {false, true}, {false, false}, {true, false}, {true, false}};
        for (int i = 0; i < 5; i++) {
            x.output(nodes[i]);
            for (int j = 0; j < 2; j++) due("node " + nodes[i] + " on input " + j, x.depends(i, j), due[i][j]);
        }
        for (int e = 1; e <= 9; e++) {
            DerivativeTape y = withInputs(2);
            y.operation(POWER, 0, e);
            y.output(1);
            due("exponent " + e, y.depends(0, 0), true);
        }
        due("no conflict by a POWER 0", x.colours(), 1);
    }

    private static void conflict() {
        sentence("Two different inputs CONFLICT if some output depends on both.");
        DerivativeTape x = withInputs(0, 0, 0);
        x.operation(MUL, 0, 1);
        x.operation(SUB, 2, 2);
        due("a node that is no output", x.colours(), 1);
        x.output(0);
        x.output(1);
        due("outputs with one input each", x.colours(), 1);
        x.output(4);
        due("one input twice is no conflict with itself", x.colour(2), 0);
        x.output(3);
        due("an output with both", x.colour(1), 1);
        due("an output with both", x.colour(0), 0);
        due("an output with both", x.colour(2), 0);
    }

    private static void leastColour() {
        sentence("is the least number 0, 1, .. that is not the colour of an input with a smaller number that conflicts with it.");
        DerivativeTape all = withInputs(0, 0, 0, 0, 0);
        for (int j = 1; j < 5; j++) all.operation(ADD, j == 1 ? 0 : 3 + j, j);
        all.output(8);
        for (int j = 0; j < 5; j++) due("all in conflict, colour(" + j + ")", all.colour(j), j);
        due("all in conflict", all.colours(), 5);
        dueColours(new int[][] {{0, 1}, {1, 2}, {2, 3}, {3, 4}}, 0, 1, 0, 1, 0);
        dueColours(new int[][] {{3, 4}}, 0, 0, 0, 0, 1);
        dueColours(new int[][] {{0, 4}, {1, 3}}, 0, 0, 0, 1, 1);
        dueColours(new int[][] {{0, 1}, {0, 2}, {1, 2}, {2, 3}, {1, 4}}, 0, 1, 2, 0, 0);
        dueColours(new int[][] {{0, 1}, {1, 2}, {0, 3}, {2, 3}, {1, 3}}, 0, 1, 0, 2, 0);
        dueColours(new int[][] {{1, 0}, {4, 0}, {4, 1}, {4, 3}, {3, 1}}, 0, 1, 0, 0, 2);
    }

    /** Five inputs, an output with both for each pair that is given, and the colours that are due. */
    private static void dueColours(int[][] pairs, int... colours) {
        DerivativeTape x = withInputs(0, 0, 0, 0, 0);
        int most = 0;
        for (int[] pair : pairs) x.output(x.operation(ADD, pair[0], pair[1]));
        for (int j = 0; j < 5; j++) {
            due(pairs.length + " pairs, colour(" + j + ")", x.colour(j), colours[j]);
            most = Math.max(most, colours[j]);
        }
        due(pairs.length + " pairs, colours()", x.colours(), most + 1);
    }

    /** How many of an operation over a constant 6 and a constant 3, and a constant, are counted. */
    private static int sizeBeside(int kind, int b, int number) {
        DerivativeTape x = new DerivativeTape();
        x.constant(6);
        x.constant(3);
        x.operation(kind, 0, b);
        x.constant(number);
        x.output(2);
        x.output(3);
        return x.size();
    }

    private static void folded() {
        sentence("A node is FOLDED if it is a constant, or an operation of which all operands are folded and which is not undefined");
        int[] values = {9, 3, 18, 2, 3, 6, 216};
        for (int kind = ADD; kind <= POWER; kind++) {
            int b = kind == POWER ? 3 : 1;
            due("alike to its value, kind " + kind, sizeBeside(kind, b, values[kind]), 1);
            due("not alike to another, kind " + kind, sizeBeside(kind, b, values[kind] + 1), 2);
        }
        due("POWER 0", sizeBeside(POWER, 0, 1), 1);
        due("MIN of one node, though rough", sizeBeside(MIN, 0, 6), 1);
        due("MAX of one node, though rough", sizeBeside(MAX, 0, 65527), 1);
        for (int kind = ADD; kind <= MAX; kind++) {
            DerivativeTape x = withInputs(2);
            x.constant(2);
            x.operation(kind, 0, 1);
            x.output(2);
            due("one operand is an input, kind " + kind, x.size(), 3);
            DerivativeTape y = withInputs(2);
            y.constant(2);
            y.operation(kind, 1, 0);
            y.output(2);
            due("one operand is an input, kind " + kind, y.size(), 3);
        }
        DerivativeTape power = withInputs(2);
        power.operation(POWER, 0, 0);
        power.constant(1);
        power.output(1);
        power.output(2);
        due("a POWER 0 of an input is not folded", power.size(), 3);
    }

    private static void undefinedIsNotFolded() {
        sentence("and which is not undefined");
        DerivativeTape x = new DerivativeTape();
        x.constant(6);
        x.constant(0);
        x.operation(DIV, 0, 1);
        x.output(2);
        due("6 / 0 and its operands", x.size(), 3);
        x.operation(POWER, 2, 0);
        x.output(3);
        due("a POWER 0 over it", x.size(), 4);
        x.operation(DIV, 1, 1);
        x.output(4);
        due("0 / 0", x.size(), 5);
        x.constant(65521);
        x.operation(DIV, 5, 1);
        x.output(6);
        due("0 / 0 again, of constants that are alike", x.size(), 5);
    }

    private static void foldedWhateverThePoint() {
        sentence("its value does not hang on the point.");
        DerivativeTape x = withInputs(3, 3);
        x.constant(3);
        x.operation(DIV, 2, 0);
        x.operation(MIN, 0, 1);
        x.operation(MAX, 0, 1);
        for (int node = 2; node <= 5; node++) x.output(node);
        x.output(0);
        for (int v : new int[] {3, 0, 1, 65520}) {
            x.point(0, v);
            due("size() at " + v, x.size(), 6);
        }
    }

    private static void foldedAlike() {
        sentence("Two nodes are ALIKE if both are folded and have the same value");
        DerivativeTape x = new DerivativeTape();
        x.constant(0);
        x.constant(65521);
        x.constant(LEAST_INT);
        x.constant(32648);
        x.constant(65520);
        int[] sizes = {1, 1, 2, 2, 3};
        for (int node = 0; node < 5; node++) {
            x.output(node);
            due("constants 0 to " + node, x.size(), sizes[node]);
        }
        DerivativeTape y = withInputs(1);
        y.constant(2);
        y.constant(5);
        y.constant(3);
        y.operation(SUB, 2, 3);
        y.operation(MUL, 0, 1);
        y.operation(MUL, 4, 0);
        y.output(5);
        y.output(6);
        due("operations over folded nodes of the same value", y.size(), 3);
    }

    private static void foldedAndNotFolded() {
        sentence("or neither is folded, and they are the same node");
        DerivativeTape x = withInputs(4, 4);
        x.constant(4);
        x.operation(POWER, 0, 1);
        x.output(2);
        x.output(0);
        due("a constant and an input of its value", x.size(), 2);
        x.output(3);
        due("and a POWER 1 of that", x.size(), 3);
        x.output(1);
        due("two inputs of the same value", x.size(), 4);
        x.output(1);
        due("the same node again", x.size(), 4);
    }

    /** How many of two operations over the inputs x and y are counted beside x and y. */
    private static int sizeOfTwo(int kind, int a, int b, int otherKind, int c, int d) {
        DerivativeTape x = withInputs(1, 2);
        x.operation(kind, a, b);
        x.operation(otherKind, c, d);
        for (int node = 0; node < 4; node++) x.output(node);
        return x.size() - 2;
    }

    private static void sameKindAndOperands() {
        sentence("or operations of the same kind, ... and their operands are alike, the first with the first and the second with the second");
        for (int kind = ADD; kind <= MAX; kind++) {
            due("twice, kind " + kind, sizeOfTwo(kind, 0, 1, kind, 0, 1), 1);
            due("of one node, kind " + kind, sizeOfTwo(kind, 1, 1, kind, 1, 1), 1);
            due("another first, kind " + kind, sizeOfTwo(kind, 0, 1, kind, 1, 1), 2);
            due("another second, kind " + kind, sizeOfTwo(kind, 0, 1, kind, 0, 0), 2);
            due("of x and of y, kind " + kind, sizeOfTwo(kind, 0, 0, kind, 1, 1), 2);
            for (int other = ADD; other <= MAX; other++) {
                if (other != kind) due("kinds " + kind + ", " + other, sizeOfTwo(kind, 0, 1, other, 0, 1), 2);
            }
            due("POWER 1 and kind " + kind, sizeOfTwo(POWER, 0, 1, kind, 0, 1), 2);
        }
        // 1 / 0 and 1 / 0 are not folded, but operations of the same kind, and so on above them.
        DerivativeTape x = new DerivativeTape();
        x.constant(1);
        x.constant(0);
        for (int m = 0; m < 2; m++) {
            int quotient = x.operation(DIV, 0, 1);
            x.output(x.operation(POWER, quotient, 2));
        }
        due("undefined operations", x.size(), 4);
    }

    private static void sameExponent() {
        sentence("with the same exponent if they are POWERs");
        for (int e = 0; e <= 9; e++) {
            due("exponents " + e + ", " + e, sizeOfTwo(POWER, 0, e, POWER, 0, e), 1);
            due("exponents " + e + " of x and of y", sizeOfTwo(POWER, 0, e, POWER, 1, e), 2);
            due("exponents " + e + ", " + (e + 1) % 10, sizeOfTwo(POWER, 0, e, POWER, 0, (e + 1) % 10), 2);
        }
    }

    private static void crosswise() {
        sentence("or, for ADD, MUL, MIN and MAX, also crosswise.");
        int[] due = {1, 2, 1, 2, 1, 1};
        for (int kind = ADD; kind <= MAX; kind++) {
            due("kind " + kind, sizeOfTwo(kind, 0, 1, kind, 1, 0), due[kind]);
            DerivativeTape x = withInputs(5, 6);
            x.operation(kind, 0, 1);
            x.operation(kind, 1, 0);
            x.operation(MUL, 2, 0);
            x.operation(MUL, 0, 3);
            x.output(4);
            x.output(5);
            due("crosswise above, kind " + kind, x.size(), due[kind] == 1 ? 4 : 6);
        }
    }

    private static void aliveByOutputs() {
        sentence("LIVE are the nodes that are outputs, and all operands of every live node that is not itself folded.");
        DerivativeTape x = withInputs(1, 2);
        due("no output", x.size(), 0);
        for (int node = 2; node < 23; node++) x.operation(SUB, node - 1, 0);
        due("no output", x.size(), 0);
        x.output(1);
        due("one input", x.size(), 1);
        x.output(2);
        due("its operands too", x.size(), 3);
        x.output(22);
        due("operands of operands", x.size(), 23);
        x.constant(1);
        due("a node that is in no output", x.size(), 23);
        x.output(23);
        due("24 nodes", x.size(), 24);
        DerivativeTape power = withInputs(1);
        power.operation(POWER, 0, 0);
        power.output(1);
        due("the operand of a POWER 0 is live", power.size(), 2);
    }

    private static void operandsOfFoldedNodes() {
        sentence("every live node that is not itself folded");
        DerivativeTape x = withInputs(1);
        x.constant(2);
        x.constant(3);
        x.operation(MUL, 1, 2);
        x.operation(ADD, 0, 3);
        x.output(3);
        due("a folded output alone", x.size(), 1);
        x.output(4);
        due("a folded operand is live, its operands are not", x.size(), 3);
        x.output(1);
        due("but as an output", x.size(), 4);
    }
}
