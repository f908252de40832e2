/** VALUES among the "Terms": a test of its own for each sentence that names a boundary case. */
public final class ValuesTest extends Sentences {

    public static void main(String[] args) {
        divisorOfValueZero();
        undefinedOperand();
        sameValueIsRough();
        roughOperand();
        undefinedGoesFirst();
        theOneOperandInItsPlace();
        derivative();
        secondDerivative();
        coefficientAlongDirection();
        Check.finish();
    }

    /** Makes a node an output of a tape with one input, and asks for its state wherever it is answered. */
    private static void dueStateOfAll(DerivativeTape x, int node, int state) {
        int i = x.output(node);
        String of = "output of node " + node;
        due(of + ", forward", x.forward(i), state);
        due(of + ", taylor 0", x.taylor(i, 0), state);
        due(of + ", taylor 8", x.taylor(i, 8), state);
        due(of + ", second", x.second(i, 0, 0), state);
        due(of + ", entry", x.entry(i, 0), state);
        due(of + ", weight", x.weight(i, 1), true);
        due(of + ", reverse", x.reverse(0), state);
        due(of + ", march", x.march(1, 1), state);
    }

    private static void divisorOfValueZero() {
        sentence("it is UNDEFINED there if it is a DIV whose b has the value 0");
        DerivativeTape x = withInputs(5);
        x.constant(5);
        x.operation(SUB, 0, 1);
        x.operation(DIV, 1, 2);
        due("5 / (x - 5) at 5", x.value(3), UNDEFINED);
        dueStateOfAll(x, 3, UNDEFINED);
        x.point(0, 4);
        due("5 / (x - 5) at 4", x.value(3), 65516);
        due("its derivative, -5 / (x - 5) ^ 2", x.entry(0, 0), 65516);
        x.point(0, 6);
        due("5 / (x - 5) at 6", x.value(3), 5);
        DerivativeTape zero = withInputs(0, 1);
        zero.operation(DIV, 0, 1);
        zero.output(2);
        due("a DIV whose a is 0 is defined", zero.value(2), 0);
        due("and has a derivative", zero.entry(0, 0), 1);
        DerivativeTape constant = new DerivativeTape();
        constant.constant(1);
        constant.constant(0);
        constant.operation(DIV, 0, 1);
        due("1 / 0 of constants", constant.value(2), UNDEFINED);
    }

    private static void undefinedOperand() {
        sentence("or an operation with an undefined operand.");
        for (int kind = ADD; kind <= MAX; kind++) {
            DerivativeTape first = overUndefined(kind, 2, 0);
            due("kind " + kind + ", the first operand", first.value(3), UNDEFINED);
            dueStateOfAll(first, 3, UNDEFINED);
            DerivativeTape second = overUndefined(kind, 0, 2);
            due("kind " + kind + ", the second operand", second.value(3), UNDEFINED);
            dueStateOfAll(second, 3, UNDEFINED);
            DerivativeTape both = overUndefined(kind, 2, 2);
            due("kind " + kind + ", both operands", both.value(3), UNDEFINED);
            dueStateOfAll(both, 3, UNDEFINED);
        }
        for (int e = 0; e <= 9; e++) {
            DerivativeTape power = overUndefined(POWER, 2, e);
            due("POWER " + e, power.value(3), UNDEFINED);
            dueStateOfAll(power, 3, UNDEFINED);
        }
        DerivativeTape chain = overUndefined(MUL, 1, 2);
        due("0 times an undefined one", chain.value(3), UNDEFINED);
        for (int node = 4; node < 24; node++) chain.operation(ADD, 0, node - 1);
        due("the end of a long chain", chain.value(23), UNDEFINED);
    }

    /** Node 0 is an input at 5, node 1 is 0, node 2 is 5 / 0; node 3 is what is asked for. */
    private static DerivativeTape overUndefined(int kind, int a, int b) {
        DerivativeTape x = withInputs(5);
        x.constant(0);
        x.operation(DIV, 0, 1);
        x.operation(kind, a, b);
        return x;
    }

    private static void sameValueIsRough() {
        sentence("A node that is not undefined is ROUGH if it is a MIN or MAX whose operands have the same value");
        for (int kind = MIN; kind <= MAX; kind++) {
            for (int[] pair : new int[][] {{0, 1}, {1, 0}, {0, 0}, {1, 1}}) {
                DerivativeTape x = withInputs(5);
                x.constant(65526);
                x.operation(kind, pair[0], pair[1]);
                due("a rough node has its value", x.value(2), 5);
                dueStateOfAll(x, 2, ROUGH);
            }
            notRoughBeside(kind);
        }
    }

    /** One more or one less is not the same; neither are 0 and 65520, which stand side by side. */
    private static void notRoughBeside(int kind) {
        int[][] pairs = {{5, 6}, {6, 5}, {0, 65520}, {65520, 0}, {0, 1}};
        for (int[] pair : pairs) {
            DerivativeTape x = withInputs(pair[0], pair[1]);
            x.operation(kind, 0, 1);
            x.output(2);
            int chosen = pair[0] < pair[1] == (kind == MIN) ? 0 : 1;
            due(pair[0] + ", " + pair[1] + " by the one", x.entry(0, chosen), 1);
            due(pair[0] + ", " + pair[1] + " by the other", x.entry(0, 1 - chosen), 0);
        }
    }

    private static void roughOperand() {
        sentence("or an operation with a rough operand.");
        for (int kind = ADD; kind <= MAX; kind++) {
            dueStateOfAll(overRough(kind, 2, 0), 3, ROUGH);
            dueStateOfAll(overRough(kind, 0, 2), 3, ROUGH);
            dueStateOfAll(overRough(kind, 2, 1), 3, kind == DIV ? UNDEFINED : ROUGH);
            dueStateOfAll(overRough(kind, 1, 2), 3, ROUGH);
            dueStateOfAll(overRough(kind, 2, 2), 3, ROUGH);
        }
        for (int e = 0; e <= 9; e++) dueStateOfAll(overRough(POWER, 2, e), 3, ROUGH);
        DerivativeTape chain = overRough(MUL, 1, 2);
        for (int node = 4; node < 24; node++) chain.operation(SUB, node - 1, 0);
        dueStateOfAll(chain, 23, ROUGH);
    }

    /** Node 0 is an input at 5, node 1 is 0, node 2 is rough and 5; node 3 is what is asked for. */
    private static DerivativeTape overRough(int kind, int a, int b) {
        DerivativeTape x = withInputs(5);
        x.constant(0);
        x.operation(MAX, 0, 0);
        x.operation(kind, a, b);
        return x;
    }

    private static void undefinedGoesFirst() {
        sentence("A node that is not undefined is ROUGH");
        // Node 2 is undefined, node 4 is rough.
        int[][] operations = {{ADD, 2, 4}, {ADD, 4, 2}, {MIN, 2, 2}, {MAX, 2, 2}, {MIN, 2, 4}, {DIV, 4, 1}, {POWER, 2, 0}};
        for (int[] it : operations) {
            DerivativeTape x = overUndefined(POWER, 0, 1);
            x.operation(MIN, 0, 3);
            x.operation(it[0], it[1], it[2]);
            due("kind " + it[0], x.value(5), UNDEFINED);
            dueStateOfAll(x, 5, UNDEFINED);
        }
    }

    private static void theOneOperandInItsPlace() {
        sentence("every MIN and MAX that it is made from has the value of just one of its operands; with that operand put in its place");
        // MIN(x ^ 3, y ^ 2) and MAX of the same, at 2, 3: x ^ 3 is 8 and y ^ 2 is 9.
        DerivativeTape x = withInputs(2, 3);
        x.operation(POWER, 0, 3);
        x.operation(POWER, 1, 2);
        x.operation(MIN, 2, 3);
        x.operation(MAX, 2, 3);
        x.output(4);
        x.output(5);
        x.direction(0, 1);
        x.direction(1, 10);
        x.weight(0, 1);
        x.weight(1, 100);
        int[] cube = {8, 12, 6, 1, 0, 0, 0, 0, 0};
        int[] square = {9, 60, 100, 0, 0, 0, 0, 0, 0};
        for (int k = 0; k <= 8; k++) {
            due("coefficient " + k + " of MIN", x.taylor(0, k), cube[k]);
            due("coefficient " + k + " of MAX", x.taylor(1, k), square[k]);
        }
        due("MIN by x, x", x.second(0, 0, 0), 12);
        due("MIN by y, y", x.second(0, 1, 1), 0);
        due("MAX by x, x", x.second(1, 0, 0), 0);
        due("MAX by y, y", x.second(1, 1, 1), 2);
        due("back to x", x.reverse(0), 12);
        due("back to y", x.reverse(1), 600);
        x.point(0, 3);
        due("MIN has changed sides", x.entry(0, 1), 6);
        due("MIN has changed sides", x.entry(0, 0), 0);
        due("MAX has changed sides", x.entry(1, 0), 27);
        due("back to x", x.reverse(0), 2700);
        due("back to y", x.reverse(1), 6);
    }

    private static void derivative() {
        sentence("The DERIVATIVE of the node by input j is the coefficient of t in the power series of its expression");
        // x ^ (9 ^ 6): the exponent is taken modulo P as a factor alone.
        DerivativeTape x = withInputs(2);
        for (int node = 1; node <= 6; node++) x.operation(POWER, node - 1, 9);
        x.output(6);
        x.weight(0, 1);
        due("2 ^ 531441", x.value(6), 14630);
        due("531441 * 2 ^ 531440", x.entry(0, 0), 64464);
        due("going back", x.reverse(0), 64464);
        x.point(0, 0);
        due("at 0", x.entry(0, 0), 0);
        powerOfThePrime();
        derivativesOfKinds();
    }

    /** At x = 2 and y = 5, where 1 / 5 is 52417 and 2 / 25 is 34071. */
    private static void derivativesOfKinds() {
        dueDerivatives(ADD, 0, 1, 1, 1);
        dueDerivatives(SUB, 0, 1, 1, 65520);
        dueDerivatives(SUB, 1, 0, 65520, 1);
        dueDerivatives(MUL, 0, 1, 5, 2);
        dueDerivatives(DIV, 0, 1, 52417, 65521 - 34071);
        dueDerivatives(DIV, 1, 1, 0, 0);
        dueDerivatives(MIN, 0, 1, 1, 0);
        dueDerivatives(MIN, 1, 0, 1, 0);
        dueDerivatives(MAX, 0, 1, 0, 1);
        dueDerivatives(MAX, 1, 0, 0, 1);
        int[] powers = {0, 1, 4, 12, 32, 80, 192, 448, 1024, 2304};
        for (int e = 0; e <= 9; e++) dueDerivatives(POWER, 0, e, powers[e], 0);
    }

    /** One derivative is told by four calls: two go ahead along an input, two go back. */
    private static void dueDerivatives(int kind, int a, int b, int byX, int byY) {
        DerivativeTape x = withInputs(2, 5);
        x.operation(kind, a, b);
        x.output(2);
        x.output(0);
        x.weight(0, 1);
        x.march(1, 1);
        int[] due = {byX, byY};
        for (int j = 0; j < 2; j++) {
            x.direction(j, 1);
            x.direction(1 - j, 0);
            String of = "kind " + kind + ", " + a + ", " + b + " by input " + j;
            due("entry, " + of, x.entry(0, j), due[j]);
            due("forward, " + of, x.forward(0), due[j]);
            due("reverse, " + of, x.reverse(j), due[j]);
            due("adjoint, " + of, x.adjoint(j), due[j]);
        }
    }

    /** x ^ 65521 has the value x at every x, yet its derivative is 65521 * x ^ 65520, and that is 0. */
    private static void powerOfThePrime() {
        int[] exponents = {2, 5, 7, 8, 9};
        DerivativeTape x = withInputs(12345);
        x.operation(POWER, 0, 6);
        x.operation(POWER, 1, 2);
        x.operation(MUL, 2, 0);
        for (int m = 0; m < exponents.length; m++) x.operation(POWER, 3 + m, exponents[m]);
        x.operation(MUL, 8, 0);
        x.output(9);
        x.direction(0, 1);
        x.weight(0, 1);
        due("x ^ 65521", x.value(9), 12345);
        due("its derivative", x.entry(0, 0), 0);
        due("its second derivative", x.second(0, 0, 0), 0);
        due("going back", x.reverse(0), 0);
        for (int k = 0; k <= 8; k++) due("its coefficient " + k, x.taylor(0, k), k == 0 ? 12345 : 0);
    }

    private static void secondDerivative() {
        sentence("(with s + t added to input j, if k is j)");
        DerivativeTape x = withInputs(3, 4);
        x.operation(POWER, 0, 2);
        x.operation(POWER, 0, 1);
        x.operation(MUL, 0, 1);
        x.operation(POWER, 4, 2);
        x.operation(POWER, 0, 9);
        for (int node = 2; node <= 6; node++) x.output(node);
        int[][] by = {{0, 0}, {0, 1}, {1, 0}, {1, 1}};
        int[][] due = {{2, 0, 0, 0}, {0, 0, 0, 0}, {0, 1, 1, 0}, {32, 48, 48, 18}, {72 * 2187 % 65521, 0, 0, 0}};
        for (int i = 0; i < 5; i++) {
            for (int m = 0; m < 4; m++) {
                due("second(" + i + ", " + by[m][0] + ", " + by[m][1] + ")", x.second(i, by[m][0], by[m][1]), due[i][m]);
            }
        }
        x.direction(0, 9);
        x.direction(1, 9);
        due("the direction does not matter", x.second(3, 0, 0), 32);
        due("the direction does not matter", x.second(3, 0, 1), 48);
    }

    private static void coefficientAlongDirection() {
        sentence("Its coefficient k along the direction is that of t ^ k in that at the point with t times the direction added.");
        DerivativeTape x = withInputs(1, 1);
        x.operation(MUL, 0, 1);
        x.operation(DIV, 0, 1);
        x.output(2);
        x.output(3);
        for (int k = 0; k <= 8; k++) {
            due("no direction, x * y, " + k, x.taylor(0, k), k == 0 ? 1 : 0);
            due("no direction, x / y, " + k, x.taylor(1, k), k == 0 ? 1 : 0);
        }
        x.direction(0, 2);
        x.direction(1, -1);
        // (1 + 2 t) * (1 - t) and (1 + 2 t) / (1 - t)
        int[] product = {1, 1, 65519, 0, 0, 0, 0, 0, 0};
        for (int k = 0; k <= 8; k++) {
            due("x * y, " + k, x.taylor(0, k), product[k]);
            due("x / y, " + k, x.taylor(1, k), k == 0 ? 1 : 3);
        }
        due("forward is coefficient 1", x.forward(0), 1);
        due("forward is coefficient 1", x.forward(1), 3);
    }
}
