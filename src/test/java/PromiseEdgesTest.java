/** "Promise 1" to "Promise 18": a test of its own for each sentence that names a boundary case. */
public final class PromiseEdgesTest extends Sentences {

    /** Numbers that are never those of an input or an output. */
    private static final int[] NONE_OF_FIVE = {-1, -2, 5, 6, 24, 65521, LEAST_INT, GREATEST_INT};
    private static final int[] NONE_OF_24 = {-1, -2, 24, 25, 65521, LEAST_INT, GREATEST_INT};

    public static void main(String[] args) {
        noNode();
        inputRefusedAt24Nodes();
        inputRefusedAt5Inputs();
        constantRefusedAt24Nodes();
        operationNoKind();
        operationNoNodeA();
        operationNoNodeB();
        operationExponent();
        operationRefusedAt24Nodes();
        outputNoNode();
        outputRefusedAt5();
        pointNoInput();
        directionNoInput();
        weightNoOutput();
        valueUndefined();
        valueNoNode();
        forwardStates();
        forwardNoOutput();
        reverseWeightsNotZero();
        reverseUndefinedElseRough();
        reverseNoInput();
        reverseNoSuchOutputs();
        taylorStates();
        taylorNoOutputOrOrder();
        secondStates();
        secondNoOutputOrInput();
        dependsNoOutputOrInput();
        colourNoInput();
        coloursNoInput();
        coloursDifferent();
        entryStates();
        entryNoOutputOrInput();
        sizeOfNothing();
        sizeNoTwoAlike();
        Check.finish();
    }

    private static void noNode() {
        sentence("DerivativeTape(): No node.");
        due("value(0)", new DerivativeTape().value(0), REFUSED);
        due("output(0)", new DerivativeTape().output(0), REFUSED);
        for (int kind = ADD; kind <= POWER; kind++) {
            due("operation(" + kind + ", 0, 0)", new DerivativeTape().operation(kind, 0, 0), REFUSED);
        }
        due("point(0, 1)", new DerivativeTape().point(0, 1), false);
        due("direction(0, 1)", new DerivativeTape().direction(0, 1), false);
        due("weight(0, 1)", new DerivativeTape().weight(0, 1), false);
        due("size()", new DerivativeTape().size(), 0);
        due("the first input", new DerivativeTape().input(), 0);
        due("the first constant", new DerivativeTape().constant(5), 0);
        DerivativeTape one = withInputs(1);
        one.output(0);
        due("another object has no node of this one", new DerivativeTape().value(0), REFUSED);
    }

    private static void inputRefusedAt24Nodes() {
        sentence("input: REFUSED when there are 24 nodes");
        due("the 24th node", withConstants(23).input(), 23);
        DerivativeTape x = withConstants(24);
        due("the 25th node", x.input(), REFUSED);
        due("no input was made", x.colours(), 0);
        DerivativeTape four = withInputs(1, 2, 3, 4);
        for (int node = 4; node < 24; node++) four.constant(node);
        due("the 25th node, with 4 inputs", four.input(), REFUSED);
        due("no fifth input was made", four.point(4, 1), false);
    }

    private static void inputRefusedAt5Inputs() {
        sentence("input: REFUSED when there are ... 5 inputs.");
        due("the fifth input", withInputs(1, 2, 3, 4).input(), 4);
        DerivativeTape x = withInputs(1, 2, 3, 4, 5);
        due("the sixth input", x.input(), REFUSED);
        due("no node was made", x.value(5), REFUSED);
        due("the next node", x.constant(1), 5);
        due("and still", x.input(), REFUSED);
    }

    private static void constantRefusedAt24Nodes() {
        sentence("constant: REFUSED when there are 24 nodes.");
        due("the 24th node", withConstants(23).constant(9), 23);
        DerivativeTape x = withConstants(24);
        for (int v : new int[] {0, -1, LEAST_INT, GREATEST_INT}) due("constant(" + v + ")", x.constant(v), REFUSED);
        due("the last one stays", x.value(23), 23);
    }

    private static void operationNoKind() {
        sentence("operation: REFUSED when there is no such kind");
        DerivativeTape x = withInputs(3, 4);
        for (int kind : new int[] {-1, -2, 7, 8, 9, 10, 65521, LEAST_INT, GREATEST_INT}) {
            due("kind " + kind, x.operation(kind, 0, 1), REFUSED);
        }
        due("kind 0", x.operation(0, 0, 1), 2);
        due("kind 6", x.operation(6, 0, 1), 3);
    }

    private static void operationNoNodeA() {
        sentence("operation: REFUSED when there is ... no node a");
        DerivativeTape x = withInputs(3, 4);
        for (int kind = ADD; kind <= POWER; kind++) {
            due("a = 2", x.operation(kind, 2, 1), REFUSED);
            for (int a : NONE_OF_24) due("a = " + a, x.operation(kind, a, 1), REFUSED);
        }
        due("a = 1", x.operation(ADD, 1, 0), 2);
    }

    private static void operationNoNodeB() {
        sentence("operation: REFUSED when there is ... no node b");
        DerivativeTape x = withInputs(3, 4);
        for (int kind = ADD; kind <= MAX; kind++) {
            due("b = 2", x.operation(kind, 1, 2), REFUSED);
            due("b = 9", x.operation(kind, 1, 9), REFUSED);
            for (int b : NONE_OF_24) due("b = " + b, x.operation(kind, 1, b), REFUSED);
        }
        due("b = 1", x.operation(ADD, 0, 1), 2);
    }

    private static void operationExponent() {
        sentence("POWER: b is not 0 .. 9");
        DerivativeTape x = withInputs(2);
        for (int b : new int[] {-1, 10, 11, 23, 24, LEAST_INT, GREATEST_INT}) {
            due("b = " + b, x.operation(POWER, 0, b), REFUSED);
        }
        due("b = 0", x.operation(POWER, 0, 0), 1);
        due("b = 9, which is no node", x.operation(POWER, 0, 9), 2);
        DerivativeTape many = withConstants(12);
        due("b = 10, which is a node", many.operation(POWER, 2, 10), REFUSED);
        due("b = 9, which is a node of another value", many.operation(POWER, 1, 9), 12);
        due("the exponent is b itself", many.value(12), 1);
    }

    private static void operationRefusedAt24Nodes() {
        sentence("operation: REFUSED when ... there are 24 nodes.");
        for (int kind = ADD; kind <= POWER; kind++) {
            DerivativeTape x = withConstants(23);
            due("the 24th node, kind " + kind, x.operation(kind, 8, 2), 23);
            due("the 25th node, kind " + kind, x.operation(kind, 8, 2), REFUSED);
            due("over the 24th node, kind " + kind, x.operation(kind, 23, 2), REFUSED);
            due("no 25th node", x.value(24), REFUSED);
        }
    }

    private static void outputNoNode() {
        sentence("output: REFUSED when there is no such node");
        DerivativeTape x = withInputs(3);
        due("output(1)", x.output(1), REFUSED);
        for (int node : NONE_OF_24) due("output(" + node + ")", x.output(node), REFUSED);
        due("output(0)", x.output(0), 0);
        DerivativeTape full = withConstants(24);
        due("output(24)", full.output(24), REFUSED);
        due("output(23)", full.output(23), 0);
    }

    private static void outputRefusedAt5() {
        sentence("output: REFUSED when ... there are 5 outputs.");
        DerivativeTape x = withInputs(3, 4);
        for (int i = 0; i < 5; i++) due("output " + i, x.output(1), i);
        due("a sixth output", x.output(1), REFUSED);
        due("a sixth output", x.output(0), REFUSED);
        due("the fifth stays", x.entry(4, 1), 1);
        due("no output 5", x.entry(5, 1), REFUSED);
    }

    private static void pointNoInput() {
        sentence("point: false when there is no such input.");
        due("no input at all", withConstants(3).point(0, 1), false);
        DerivativeTape x = withInputs(3, 4);
        x.constant(9);
        due("point(2, 1), where a node 2 is", x.point(2, 1), false);
        for (int j : NONE_OF_FIVE) due("point(" + j + ", 1)", x.point(j, 1), false);
        due("point(1, 5)", x.point(1, 5), true);
        due("value(0)", x.value(0), 3);
        due("value(1)", x.value(1), 5);
        due("value(2)", x.value(2), 9);
        due("a new input", x.input(), 3);
        due("nothing was set beforehand", x.value(3), 0);
        due("no input 5", withInputs(1, 2, 3, 4, 5).point(5, 1), false);
    }

    private static void directionNoInput() {
        sentence("direction: false when there is no such input.");
        due("no input at all", withConstants(3).direction(0, 1), false);
        DerivativeTape x = productAndSum(3, 4);
        due("direction(2, 1)", x.direction(2, 1), false);
        for (int j : NONE_OF_FIVE) due("direction(" + j + ", 1)", x.direction(j, 1), false);
        due("nothing was set", x.forward(1), 0);
        due("direction(1, 5)", x.direction(1, 5), true);
        due("forward(0)", x.forward(0), 15);
        due("a new input", x.output(x.input()), 2);
        due("nothing was set beforehand", x.forward(2), 0);
        due("no input 5", withInputs(1, 2, 3, 4, 5).direction(5, 1), false);
    }

    private static void weightNoOutput() {
        sentence("weight: false when there is no such output.");
        due("no output at all", withInputs(3).weight(0, 1), false);
        DerivativeTape x = withInputs(3, 4, 5);
        x.output(0);
        x.output(1);
        due("weight(2, 1), where an input 2 is", x.weight(2, 1), false);
        for (int i : NONE_OF_FIVE) due("weight(" + i + ", 1)", x.weight(i, 1), false);
        due("nothing was set", x.reverse(0), 0);
        x.output(2);
        due("nothing was set beforehand", x.reverse(2), 0);
        due("weight(2, 5)", x.weight(2, 5), true);
        due("reverse(2)", x.reverse(2), 5);
    }

    private static void valueUndefined() {
        sentence("value: The value of a node at the point, or UNDEFINED");
        DerivativeTape x = undefinedRoughSmooth();
        due("undefined", x.value(3), UNDEFINED);
        due("rough", x.value(4), 7);
        due("smooth", x.value(0), 7);
        x.point(2, 1);
        due("defined at another point", x.value(3), 7);
        x.point(2, 65521);
        due("undefined again", x.value(3), UNDEFINED);
        x.operation(POWER, 4, 2);
        due("a node that is no output", x.value(5), 49);
    }

    private static void valueNoNode() {
        sentence("value: REFUSED when there is no such node.");
        for (int node : NONE_OF_24) due("no node at all", new DerivativeTape().value(node), REFUSED);
        DerivativeTape x = undefinedRoughSmooth();
        due("value(5)", x.value(5), REFUSED);
        for (int node : NONE_OF_24) due("value(" + node + ")", x.value(node), REFUSED);
        DerivativeTape full = withConstants(24);
        due("value(23)", full.value(23), 23);
        due("value(24)", full.value(24), REFUSED);
    }

    private static void forwardStates() {
        sentence("forward: UNDEFINED or ROUGH when the output is");
        DerivativeTape x = undefinedRoughSmooth();
        x.direction(0, 5);
        due("undefined", x.forward(0), UNDEFINED);
        due("rough", x.forward(1), ROUGH);
        due("smooth", x.forward(2), 5);
        x.direction(0, 0);
        due("undefined, without a direction", x.forward(0), UNDEFINED);
        due("rough, without a direction", x.forward(1), ROUGH);
        x.point(2, 1);
        x.point(1, 8);
        x.direction(0, 5);
        due("defined elsewhere", x.forward(0), 5);
        due("smooth elsewhere", x.forward(1), 5);
    }

    private static void forwardNoOutput() {
        sentence("forward: REFUSED when there is no such output.");
        due("no output at all", withInputs(3).forward(0), REFUSED);
        DerivativeTape x = undefinedRoughSmooth();
        due("forward(3)", x.forward(3), REFUSED);
        for (int i : NONE_OF_FIVE) due("forward(" + i + ")", x.forward(i), REFUSED);
    }

    private static void reverseWeightsNotZero() {
        sentence("reverse: The sum, over the outputs whose weight is not 0");
        DerivativeTape x = undefinedRoughSmooth();
        x.weight(2, 9);
        due("an undefined and a rough output without weight", x.reverse(0), 9);
        x.weight(1, 65521);
        x.weight(0, -65521);
        due("the weights 65521 and -65521 are 0", x.reverse(0), 9);
        x.weight(0, 1);
        due("the weight 1", x.reverse(0), UNDEFINED);
        x.weight(0, 0);
        due("the weight 0 again", x.reverse(0), 9);
        x.weight(1, 65520);
        due("the weight 65520", x.reverse(0), ROUGH);
    }

    private static void reverseUndefinedElseRough() {
        sentence("reverse: UNDEFINED when one of these outputs is undefined, else ROUGH when one of them is rough");
        DerivativeTape x = undefinedRoughSmooth();
        x.weight(2, 9);
        x.weight(1, 1);
        for (int j = 0; j < 3; j++) due("rough, by input " + j, x.reverse(j), ROUGH);
        x.weight(0, 1);
        for (int j = 0; j < 3; j++) due("undefined and rough, by input " + j, x.reverse(j), UNDEFINED);
        x.weight(1, 0);
        for (int j = 0; j < 3; j++) due("undefined, by input " + j, x.reverse(j), UNDEFINED);
        DerivativeTape y = withInputs(7, 7, 0);
        y.operation(MIN, 0, 1);
        y.operation(DIV, 0, 2);
        y.output(3);
        y.output(4);
        y.weight(0, 1);
        y.weight(1, 1);
        due("the rough one before the undefined one", y.reverse(1), UNDEFINED);
        DerivativeTape z = withInputs(7, 7);
        z.operation(MIN, 0, 1);
        z.output(2);
        z.output(2);
        z.weight(0, 1);
        z.weight(1, -1);
        due("weights of one node that sum up to 0", z.reverse(0), ROUGH);
        z.point(0, 6);
        due("the same, smooth", z.reverse(0), 0);
    }

    private static void reverseNoInput() {
        sentence("reverse: REFUSED when there is no such input.");
        due("no input at all", withConstants(3).reverse(0), REFUSED);
        DerivativeTape x = undefinedRoughSmooth();
        x.output(0);
        due("reverse(3), where an output 3 is", x.reverse(3), REFUSED);
        for (int j : NONE_OF_FIVE) due("reverse(" + j + ")", x.reverse(j), REFUSED);
        x.weight(0, 1);
        due("reverse(3), the output being undefined", x.reverse(3), REFUSED);
    }

    private static void reverseNoSuchOutputs() {
        sentence("(0 when there are no such outputs.)");
        due("no output at all", withInputs(3).reverse(0), 0);
        DerivativeTape x = undefinedRoughSmooth();
        for (int j = 0; j < 3; j++) due("no weights, by input " + j, x.reverse(j), 0);
        for (int i = 0; i < 3; i++) x.weight(i, 131042);
        for (int j = 0; j < 3; j++) due("all weights 0, by input " + j, x.reverse(j), 0);
    }

    private static void taylorStates() {
        sentence("taylor: UNDEFINED or ROUGH when the output is (also for k = 0)");
        DerivativeTape x = undefinedRoughSmooth();
        x.direction(0, 5);
        for (int k = 0; k <= 8; k++) {
            due("undefined, " + k, x.taylor(0, k), UNDEFINED);
            due("rough, " + k, x.taylor(1, k), ROUGH);
            due("smooth, " + k, x.taylor(2, k), k == 0 ? 7 : k == 1 ? 5 : 0);
        }
    }

    private static void taylorNoOutputOrOrder() {
        sentence("taylor: REFUSED when there is no such output or k is not 0 .. 8.");
        due("no output at all", withInputs(3).taylor(0, 0), REFUSED);
        DerivativeTape x = undefinedRoughSmooth();
        for (int k : new int[] {-1, 9, 10, 65521, LEAST_INT, GREATEST_INT}) {
            for (int i = 0; i < 3; i++) due("taylor(" + i + ", " + k + ")", x.taylor(i, k), REFUSED);
        }
        due("taylor(3, 0)", x.taylor(3, 0), REFUSED);
        for (int i : NONE_OF_FIVE) due("taylor(" + i + ", 0)", x.taylor(i, 0), REFUSED);
        DerivativeTape power = withInputs(1);
        power.operation(POWER, 0, 8);
        power.output(1);
        power.direction(0, 1);
        due("k = 8 is there", power.taylor(0, 8), 1);
        due("k = 0 is there", power.taylor(0, 0), 1);
    }

    private static void secondStates() {
        sentence("second: UNDEFINED or ROUGH when the output is");
        DerivativeTape x = undefinedRoughSmooth();
        for (int j = 0; j < 3; j++) {
            for (int k = 0; k < 3; k++) {
                due("undefined", x.second(0, j, k), UNDEFINED);
                due("rough", x.second(1, j, k), ROUGH);
                due("smooth", x.second(2, j, k), 0);
            }
        }
    }

    private static void secondNoOutputOrInput() {
        sentence("second: REFUSED when there is no such output or input.");
        due("no output at all", withInputs(3).second(0, 0, 0), REFUSED);
        DerivativeTape constant = withConstants(1);
        constant.output(0);
        due("no input at all", constant.second(0, 0, 0), REFUSED);
        DerivativeTape x = undefinedRoughSmooth();
        for (int i = 0; i < 3; i++) {
            due("no input j", x.second(i, 3, 0), REFUSED);
            due("no input k", x.second(i, 0, 3), REFUSED);
            due("neither", x.second(i, 3, 3), REFUSED);
            for (int w : NONE_OF_FIVE) {
                due("second(" + i + ", " + w + ", 0)", x.second(i, w, 0), REFUSED);
                due("second(" + i + ", 0, " + w + ")", x.second(i, 0, w), REFUSED);
            }
        }
        due("no output", x.second(3, 0, 0), REFUSED);
        for (int w : NONE_OF_FIVE) due("second(" + w + ", 0, 0)", x.second(w, 0, 0), REFUSED);
    }

    private static void dependsNoOutputOrInput() {
        sentence("depends: false also when there is no such output or input.");
        due("no node at all", new DerivativeTape().depends(0, 0), false);
        due("no output at all", withInputs(3).depends(0, 0), false);
        DerivativeTape x = withInputs(1, 2, 3, 4, 5);
        for (int j = 1; j < 5; j++) x.operation(ADD, j == 1 ? 0 : 3 + j, j);
        for (int i = 0; i < 5; i++) {
            due("depends(" + i + ", 0), no output " + i + " yet", x.depends(i, 0), false);
            x.output(8);
            for (int j = 0; j < 5; j++) due("depends(" + i + ", " + j + ")", x.depends(i, j), true);
            for (int j : NONE_OF_FIVE) due("depends(" + i + ", " + j + ")", x.depends(i, j), false);
        }
        // Shifts by 32 and 64 come round to those by 0: such numbers are no inputs either.
        for (int j : new int[] {31, 32, 33, 36, 63, 64, -32, -31}) due("depends(0, " + j + ")", x.depends(0, j), false);
        for (int i : NONE_OF_FIVE) due("depends(" + i + ", 0)", x.depends(i, 0), false);
        DerivativeTape one = withInputs(3);
        one.output(0);
        due("no input 1", one.depends(0, 1), false);
        one.input();
        due("nor does it depend on a later one", one.depends(0, 1), false);
    }

    private static void colourNoInput() {
        sentence("colour: REFUSED when there is no such input.");
        due("no input at all", withConstants(3).colour(0), REFUSED);
        DerivativeTape x = undefinedRoughSmooth();
        due("colour(2)", x.colour(2), 1);
        due("colour(3)", x.colour(3), REFUSED);
        for (int j : NONE_OF_FIVE) due("colour(" + j + ")", x.colour(j), REFUSED);
        DerivativeTape five = withInputs(1, 2, 3, 4, 5);
        due("colour(4)", five.colour(4), 0);
        due("colour(5)", five.colour(5), REFUSED);
    }

    private static void coloursNoInput() {
        sentence("colours: 0 when there is no input.");
        due("no node at all", new DerivativeTape().colours(), 0);
        DerivativeTape x = withConstants(3);
        x.output(2);
        due("an output alone", x.colours(), 0);
        x.input();
        due("an input", x.colours(), 1);
    }

    private static void coloursDifferent() {
        sentence("colours: The number of different colours of the inputs");
        DerivativeTape x = withInputs(1, 2, 3, 4, 5);
        due("five inputs of colour 0", x.colours(), 1);
        for (int j = 1; j < 5; j++) {
            x.output(x.operation(MAX, j == 1 ? 0 : 3 + j, j));
            due(j + 1 + " inputs in conflict", x.colours(), j + 1);
        }
    }

    private static void entryStates() {
        sentence("entry: UNDEFINED or ROUGH when the output is, also if it does not depend on j");
        DerivativeTape x = undefinedRoughSmooth();
        x.input();
        for (int j = 0; j < 4; j++) {
            due("undefined, by input " + j, x.entry(0, j), UNDEFINED);
            due("rough, by input " + j, x.entry(1, j), ROUGH);
            due("smooth, by input " + j, x.entry(2, j), j == 0 ? 1 : 0);
        }
        DerivativeTape y = withInputs(1);
        y.constant(0);
        y.operation(DIV, 1, 1);
        y.operation(MAX, 1, 1);
        y.output(2);
        y.output(3);
        due("undefined, made from constants", y.entry(0, 0), UNDEFINED);
        due("rough, made from constants", y.entry(1, 0), ROUGH);
    }

    private static void entryNoOutputOrInput() {
        sentence("entry: REFUSED when there is no such output or input.");
        due("no output at all", withInputs(3).entry(0, 0), REFUSED);
        DerivativeTape constant = withConstants(1);
        constant.output(0);
        due("no input at all", constant.entry(0, 0), REFUSED);
        DerivativeTape x = undefinedRoughSmooth();
        for (int i = 0; i < 3; i++) {
            due("entry(" + i + ", 3)", x.entry(i, 3), REFUSED);
            for (int j : NONE_OF_FIVE) due("entry(" + i + ", " + j + ")", x.entry(i, j), REFUSED);
        }
        due("entry(3, 0)", x.entry(3, 0), REFUSED);
        for (int i : NONE_OF_FIVE) due("entry(" + i + ", 0)", x.entry(i, 0), REFUSED);
    }

    private static void sizeOfNothing() {
        sentence("size: the greatest number of live nodes");
        due("no node", new DerivativeTape().size(), 0);
        due("no output", withConstants(24).size(), 0);
        due("no output", withInputs(1, 2, 3, 4, 5).size(), 0);
        DerivativeTape all = withInputs(1, 2, 3, 4, 5);
        for (int node = 5; node < 24; node++) all.operation(SUB, node - 1, node - 5);
        for (int j = 0; j < 4; j++) all.output(j);
        all.output(23);
        due("all 24 nodes", all.size(), 24);
    }

    private static void sizeNoTwoAlike() {
        sentence("size: no two of which are alike.");
        DerivativeTape five = withInputs(1);
        for (int i = 0; i < 5; i++) {
            five.output(0);
            due("one node as outputs 0 to " + i, five.size(), 1);
        }
        // Each pair is alike to the pair before it only when that one's nodes are.
        DerivativeTape x = withInputs(1, 2);
        for (int pair = 0; pair < 11; pair++) {
            int left = pair == 0 ? 0 : 2 * pair;
            int right = pair == 0 ? 1 : 2 * pair + 1;
            x.operation(pair % 2 == 0 ? ADD : MUL, left, right);
            x.operation(pair % 2 == 0 ? ADD : MUL, right, left);
        }
        x.output(22);
        x.output(23);
        due("eleven pairs, each alike", x.size(), 13);
    }
}
