/** "What it is" and "Terms": a test of its own for each sentence that names a boundary case. */
public final class TermsTest extends Sentences {
    /** Ints, and under each the number that it stands for. */
    private static final int[] INTS = {
        0, 1, 65520, 65521, 65522, 131041, 131042, 131043, -1, -2, -65520, -65521, -65522, -131042,
        GREATEST_INT, GREATEST_INT - 1, LEAST_INT, LEAST_INT + 1
    };
    private static final int[] STAND_FOR = {
        0, 1, 65520, 0, 1, 65520, 0, 1, 65520, 65519, 1, 0, 65520, 0,
        32872, 32871, 32648, 32649
    };

    public static void main(String[] args) {
        allOf512Calls();
        callsBeyond512();
        arithmeticWraps();
        quotient();
        zeroDividesNothing();
        intStandsForNumber();
        atMost24Nodes();
        atMost5Inputs();
        operandsMadeBefore();
        kinds();
        lesserAndGreater();
        sameOperandTwice();
        exponents();
        powerZeroIsOne();
        outputs();
        zeroUntilSet();
        Check.finish();
    }

    private static void allOf512Calls() {
        sentence("An object is used for at most 512 calls after it has been made");
        due("input()", after511Calls().input(), 4);
        due("constant(9)", after511Calls().constant(9), 4);
        due("operation(0, 0, 1)", after511Calls().operation(ADD, 0, 1), 4);
        due("output(0)", after511Calls().output(0), 2);
        due("point(0, 5)", after511Calls().point(0, 5), true);
        due("direction(0, 5)", after511Calls().direction(0, 5), true);
        due("weight(0, 5)", after511Calls().weight(0, 5), true);
        due("value(2)", after511Calls().value(2), 6);
        due("forward(0)", after511Calls().forward(0), 3);
        due("reverse(1)", after511Calls().reverse(1), 2);
        due("taylor(0, 0)", after511Calls().taylor(0, 0), 6);
        due("second(0, 0, 1)", after511Calls().second(0, 0, 1), 1);
        due("depends(0, 1)", after511Calls().depends(0, 1), true);
        due("colour(1)", after511Calls().colour(1), 1);
        due("colours()", after511Calls().colours(), 2);
        due("entry(0, 1)", after511Calls().entry(0, 1), 2);
        due("size()", after511Calls().size(), 4);
        due("march(20, 5)", after511Calls().march(20, 5), 33);
        due("arrived(0)", after511Calls().arrived(0), 6);
        due("adjoint(0)", after511Calls().adjoint(0), 3);
        DerivativeTape late = new DerivativeTape();
        for (int call = 0; call < 488; call++) late.size();
        for (int node = 0; node < 24; node++) due("24 nodes by the last 24 calls", late.constant(node), node);
    }

    private static DerivativeTape after511Calls() {
        // Eleven calls make the tape; each of the others only asks, or marches the one step again.
        DerivativeTape x = productAndSum(2, 3);
        x.direction(0, 1);
        x.weight(0, 1);
        x.march(1, 1);
        for (int call = 11; call < 511; call++) askSomething(x, call);
        return x;
    }

    private static void askSomething(DerivativeTape x, int turn) {
        switch (turn % 13) {
            case 0 -> x.value(3);
            case 1 -> x.forward(1);
            case 2 -> x.reverse(0);
            case 3 -> x.taylor(0, 8);
            case 4 -> x.second(1, 1, 1);
            case 5 -> x.depends(1, 1);
            case 6 -> x.colour(0);
            case 7 -> x.colours();
            case 8 -> x.entry(1, 0);
            case 9 -> x.size();
            case 10 -> x.march(1, 5);
            case 11 -> x.arrived(1);
            default -> x.adjoint(1);
        }
    }

    private static void callsBeyond512() {
        sentence("what later calls answer is free");
        DerivativeTape x = after511Calls();
        for (int call = 0; call < 3000; call++) {
            askSomething(x, call);
            x.input();
            x.constant(call);
            x.operation(call % 7, call % 24, call % 10);
            x.output(call % 24);
            x.march(20, 1);
        }
        due("they end, and throw nothing (rule 7)", true, true);
    }

    private static void arithmeticWraps() {
        sentence("NUMBERS are 0 .. P - 1, P = 65521 (a prime); all arithmetic is modulo P.");
        due("65520 + 1", valueOf(ADD, 65520, 1), 0);
        due("65520 + 65520", valueOf(ADD, 65520, 65520), 65519);
        due("65520 + 0", valueOf(ADD, 65520, 0), 65520);
        due("0 - 1", valueOf(SUB, 0, 1), 65520);
        due("0 - 65520", valueOf(SUB, 0, 65520), 1);
        due("65520 - 65520", valueOf(SUB, 65520, 65520), 0);
        due("65520 * 65520", valueOf(MUL, 65520, 65520), 1);
        due("65520 * 0", valueOf(MUL, 65520, 0), 0);
        due("256 * 256", valueOf(MUL, 256, 256), 15);
        due("1 / 65520", valueOf(DIV, 1, 65520), 65520);
        due("1 / 2", valueOf(DIV, 1, 2), 32761);
        DerivativeTape x = withInputs(65520, 2);
        for (int e = 0; e <= 9; e++) {
            x.operation(POWER, 0, e);
            due("65520 ^ " + e, x.value(2 + e), e % 2 == 0 ? 1 : 65520);
        }
        x.operation(POWER, 1, 9);
        x.operation(POWER, 12, 2);
        due("2 ^ 18", x.value(13), 4 * 65536 - 4 * 65521);
    }

    private static int valueOf(int kind, int a, int b) {
        DerivativeTape x = withInputs(a, b);
        x.operation(kind, 0, 1);
        return x.value(2);
    }

    private static void quotient() {
        sentence("a / b is the number whose product with b is a");
        for (int b = 1; b < 65521; ) {
            DerivativeTape x = withInputs(65520, 0);
            x.operation(DIV, 0, 1);
            for (int turn = 0; turn < 240 && b < 65521; turn++, b++) {
                x.point(1, b);
                long product = (long) x.value(2) * b % 65521;
                if (product != 65520) due("65520 / " + b + " times " + b, product, 65520);
            }
        }
        for (int b : new int[] {1, 2, 32760, 32761, 65519, 65520}) due("0 / " + b, valueOf(DIV, 0, b), 0);
    }

    private static void zeroDividesNothing() {
        sentence("b = 0 divides nothing.");
        for (int a : new int[] {0, 1, 65520}) {
            for (int b : new int[] {0, 65521, -65521, 131042}) due(a + " / " + b, valueOf(DIV, a, b), UNDEFINED);
        }
        DerivativeTape x = withInputs(0);
        x.operation(DIV, 0, 0);
        due("0 / 0 of one node", x.value(1), UNDEFINED);
        x.point(0, 1);
        due("1 / 1 of one node", x.value(1), 1);
    }

    private static void intStandsForNumber() {
        sentence("An int v stands for the number that differs from it by a multiple of P.");
        for (int m = 0; m < INTS.length; m++) {
            int v = INTS[m];
            DerivativeTape x = withInputs(1);
            due("constant(" + v + ")", x.constant(v), 1);
            due("its value", x.value(1), STAND_FOR[m]);
            x.output(0);
            due("point(0, " + v + ")", x.point(0, v), true);
            due("its value", x.value(0), STAND_FOR[m]);
            due("taylor(0, 0)", x.taylor(0, 0), STAND_FOR[m]);
            due("direction(0, " + v + ")", x.direction(0, v), true);
            due("forward(0)", x.forward(0), STAND_FOR[m]);
            due("weight(0, " + v + ")", x.weight(0, v), true);
            due("reverse(0)", x.reverse(0), STAND_FOR[m]);
            due("march(1, 1)", x.march(1, 1), 0);
            due("arrived(0)", x.arrived(0), STAND_FOR[m]);
            due("adjoint(0)", x.adjoint(0), STAND_FOR[m]);
        }
    }

    private static void atMost24Nodes() {
        sentence("NODES are numbered 0, 1, .. as they are made, at most 24");
        DerivativeTape constants = new DerivativeTape();
        for (int node = 0; node < 24; node++) due("constant", constants.constant(node), node);
        refusesNodes("constants", constants);
        DerivativeTape operations = new DerivativeTape();
        due("input", operations.input(), 0);
        for (int node = 1; node < 24; node++) {
            due("operation", operations.operation(node % 7, node - 1, 0), node);
        }
        refusesNodes("operations", operations);
        DerivativeTape mixed = withConstants(19);
        for (int j = 0; j < 5; j++) due("input", mixed.input(), 19 + j);
        refusesNodes("inputs last", mixed);
        for (int node = 0; node < 19; node++) due("each stays", mixed.value(node), node);
        due("the last node is there", mixed.value(23), 0);
        due("the last node may be an output", mixed.output(23), 0);
        due("and is input 4", mixed.depends(0, 4), true);
    }

    private static void refusesNodes(String of, DerivativeTape x) {
        due(of + ": input", x.input(), REFUSED);
        due(of + ": constant", x.constant(0), REFUSED);
        for (int kind = ADD; kind <= POWER; kind++) due(of + ": operation", x.operation(kind, 0, 0), REFUSED);
        due(of + ": node 24", x.value(24), REFUSED);
    }

    private static void atMost5Inputs() {
        sentence("INPUTS (numbered 0, 1, .. among themselves, at most 5)");
        DerivativeTape x = new DerivativeTape();
        for (int j = 0; j < 5; j++) {
            x.constant(90 + j);
            due("no input " + j + " yet", x.point(j, 1), false);
            due("node of input " + j, x.input(), 2 * j + 1);
        }
        due("a sixth input", x.input(), REFUSED);
        for (int j = 0; j < 5; j++) due("point(" + j + ")", x.point(j, 50 + j), true);
        due("no input 5", x.point(5, 1), false);
        due("no input 5", x.reverse(5), REFUSED);
        for (int j = 0; j < 5; j++) {
            due("input " + j, x.value(2 * j + 1), 50 + j);
            due("the constant before it", x.value(2 * j), 90 + j);
        }
    }

    private static void operandsMadeBefore() {
        sentence("OPERATIONS over nodes made before");
        DerivativeTape x = withInputs(3);
        for (int kind = ADD; kind <= POWER; kind++) {
            int next = kind + 1;
            due("over itself", x.operation(kind, next, 0), REFUSED);
            if (kind < POWER) due("over itself", x.operation(kind, 0, next), REFUSED);
            due("over the next but one", x.operation(kind, next + 1, 0), REFUSED);
            due("over the latest", x.operation(kind, next - 1, kind < POWER ? next - 1 : 2), next);
        }
        // x + x, minus itself, squared, by itself: undefined from there on.
        int[] values = {3, 6, 0, 0, UNDEFINED, UNDEFINED, UNDEFINED, UNDEFINED};
        for (int node = 0; node < 8; node++) due("value(" + node + ")", x.value(node), values[node]);
    }

    private static void kinds() {
        sentence("KINDS of operations: 0 ADD a + b, 1 SUB a - b, 2 MUL a * b, 3 DIV a / b, 4 MIN and 5 MAX ... 6 POWER");
        int[] values = {13, 7, 30, 43684, 3, 10, 1000};
        DerivativeTape x = withInputs(10, 3);
        for (int kind = 0; kind <= 6; kind++) {
            due("kind " + kind, x.operation(kind, 0, kind == POWER ? 3 : 1), 2 + kind);
            due("its value", x.value(2 + kind), values[kind]);
        }
        for (int kind : new int[] {-1, 7, 8, 9, 10, 'i', 'c', LEAST_INT, GREATEST_INT}) {
            due("kind " + kind, x.operation(kind, 0, 1), REFUSED);
        }
        due("the next node", x.constant(0), 9);
    }

    private static void lesserAndGreater() {
        sentence("MIN and 5 MAX the lesser and the greater of a and b as numbers 0 .. P - 1");
        int[][] pairs = {{0, -1}, {-1, 0}, {1, -1}, {65520, 65521}, {2, 65522}, {LEAST_INT, GREATEST_INT}, {7, 8}, {4, 4}};
        int[][] lesserGreater = {{0, 65520}, {0, 65520}, {1, 65520}, {0, 65520}, {1, 2}, {32648, 32872}, {7, 8}, {4, 4}};
        for (int m = 0; m < pairs.length; m++) {
            String of = "of " + pairs[m][0] + " and " + pairs[m][1];
            due("MIN " + of, valueOf(MIN, pairs[m][0], pairs[m][1]), lesserGreater[m][0]);
            due("MAX " + of, valueOf(MAX, pairs[m][0], pairs[m][1]), lesserGreater[m][1]);
        }
    }

    private static void sameOperandTwice() {
        sentence("their operands, which may be the same node");
        int[] values = {10, 0, 25, 1, 5, 5};
        int[] derivatives = {2, 0, 10, 0, ROUGH, ROUGH};
        int[] seconds = {0, 0, 2, 0, ROUGH, ROUGH};
        for (int kind = ADD; kind <= MAX; kind++) {
            DerivativeTape x = withInputs(5);
            due("kind " + kind, x.operation(kind, 0, 0), 1);
            x.output(1);
            x.weight(0, 1);
            x.direction(0, 1);
            due("value, kind " + kind, x.value(1), values[kind]);
            due("entry, kind " + kind, x.entry(0, 0), derivatives[kind]);
            due("forward, kind " + kind, x.forward(0), derivatives[kind]);
            due("reverse, kind " + kind, x.reverse(0), derivatives[kind]);
            due("second, kind " + kind, x.second(0, 0, 0), seconds[kind]);
            due("size, kind " + kind, x.size(), 2);
            due("depends, kind " + kind, x.depends(0, 0), true);
        }
    }

    private static void exponents() {
        sentence("6 POWER, of one node a (its operand) and an exponent 0 .. 9");
        DerivativeTape x = withInputs(2);
        for (int e = 0; e <= 9; e++) {
            due("exponent " + e, x.operation(POWER, 0, e), e + 1);
            due("2 ^ " + e, x.value(e + 1), 1 << e);
        }
        for (int e : new int[] {10, 11, 24, -1, -9, 65521, LEAST_INT, GREATEST_INT}) {
            due("exponent " + e, x.operation(POWER, 0, e), REFUSED);
        }
        x.output(10);
        due("9 * 2 ^ 8", x.entry(0, 0), 2304);
        due("9 * 8 * 2 ^ 7", x.second(0, 0, 0), 9216);
        x.point(0, 0);
        for (int e = 1; e <= 9; e++) due("0 ^ " + e, x.value(e + 1), 0);
        due("the derivative of x ^ 9 at 0", x.entry(0, 0), 0);
        x.output(2);
        due("the derivative of x ^ 1 at 0", x.entry(1, 0), 1);
    }

    private static void powerZeroIsOne() {
        sentence("the power 0 of every number is 1");
        for (int v : new int[] {0, 1, 2, 65520, 65521}) {
            DerivativeTape x = withInputs(v);
            x.operation(POWER, 0, 0);
            x.constant(v);
            x.operation(POWER, 2, 0);
            x.output(1);
            x.direction(0, 3);
            x.weight(0, 5);
            due("input at " + v + ", power 0", x.value(1), 1);
            due("constant " + v + ", power 0", x.value(3), 1);
            due("its derivative", x.entry(0, 0), 0);
            due("its second derivative", x.second(0, 0, 0), 0);
            due("going back", x.reverse(0), 0);
            for (int k = 0; k <= 8; k++) due("its coefficient " + k, x.taylor(0, k), k == 0 ? 1 : 0);
        }
    }

    private static void outputs() {
        sentence("OUTPUTS, numbered 0, 1, .., at most 5, are nodes (a node may be several).");
        DerivativeTape x = withInputs(6, 8);
        x.constant(9);
        int[] nodes = {1, 0, 1, 2, 0};
        for (int i = 0; i < 5; i++) due("output " + i, x.output(nodes[i]), i);
        for (int node = -1; node <= 3; node++) due("a sixth output", x.output(node), REFUSED);
        for (int i = 0; i < 5; i++) {
            due("output " + i, x.taylor(i, 0), x.value(nodes[i]));
            due("weight of output " + i, x.weight(i, 1 << i), true);
        }
        due("both weights of node 0", x.reverse(0), 2 + 16);
        due("both weights of node 1", x.reverse(1), 1 + 4);
        due("no output 5", x.weight(5, 1), false);
        due("no output 5", x.taylor(5, 0), REFUSED);
    }

    private static void zeroUntilSet() {
        sentence("all are 0 until they are set.");
        DerivativeTape x = withInputs(5);
        x.direction(0, 6);
        x.output(0);
        x.weight(0, 7);
        x.input();
        x.output(1);
        due("the point of a new input", x.value(1), 0);
        due("the direction of a new input", x.forward(1), 0);
        due("the weight of a new output", x.reverse(1), 0);
        due("the point that was set", x.value(0), 5);
        due("the direction that was set", x.forward(0), 6);
        due("the weight that was set", x.reverse(0), 7);
        due("march(1, 1)", x.march(1, 1), 0);
        due("the weight of a new output, at a march", x.adjoint(1), 0);
        x.weight(1, 8);
        due("the weight that is set now", x.reverse(1), 8);
        x.point(0, 0);
        x.direction(0, 0);
        x.weight(0, 0);
        due("a point set to 0 again", x.value(0), 0);
        due("a direction set to 0 again", x.forward(0), 0);
        due("a weight set to 0 again", x.reverse(0), 0);
    }
}
