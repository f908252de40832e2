/** Every promise of the document by itself: ordinary inputs, its edges, and wrong inputs. */
public final class PromisesTest {
    private static final int UNDEFINED = -1;
    private static final int ROUGH = -2;
    private static final int REFUSED = -3;

    private static final int ADD = 0;
    private static final int SUB = 1;
    private static final int MUL = 2;
    private static final int DIV = 3;
    private static final int MIN = 4;
    private static final int MAX = 5;
    private static final int POWER = 6;

    private static final int[] WRONG = {-1, 5, 24, Integer.MIN_VALUE, Integer.MAX_VALUE};

    private static String promise = "";

    public static void main(String[] args) {
        newObject();
        input();
        constant();
        operation();
        operationRefused();
        output();
        point();
        direction();
        weight();
        value();
        valueUndefined();
        forward();
        reverse();
        reverseStates();
        taylor();
        second();
        depends();
        colour();
        colours();
        entry();
        roughness();
        size();
        sizeAlike();
        sizeFolded();
        sizeLive();
        march();
        marchStates();
        marchRefused();
        arrived();
        adjoint();
        fullTape();
        refusedCallsChangeNothing();
        Check.finish();
    }

    private static void due(String call, long got, long want) {
        Check.due(promise + ": " + call, got, want);
    }

    private static void due(String call, boolean got, boolean want) {
        Check.due(promise + ": " + call, got, want);
    }

    private static DerivativeTape withInputs(int... point) {
        DerivativeTape x = new DerivativeTape();
        for (int j = 0; j < point.length; j++) {
            x.input();
            x.point(j, point[j]);
        }
        return x;
    }

    private static void newObject() {
        promise = "1 new object";
        DerivativeTape x = new DerivativeTape();
        due("value(0)", x.value(0), REFUSED);
        due("output(0)", x.output(0), REFUSED);
        due("operation(0, 0, 0)", x.operation(ADD, 0, 0), REFUSED);
        due("point(0, 1)", x.point(0, 1), false);
        due("direction(0, 1)", x.direction(0, 1), false);
        due("weight(0, 1)", x.weight(0, 1), false);
        due("forward(0)", x.forward(0), REFUSED);
        due("reverse(0)", x.reverse(0), REFUSED);
        due("taylor(0, 0)", x.taylor(0, 0), REFUSED);
        due("second(0, 0, 0)", x.second(0, 0, 0), REFUSED);
        due("depends(0, 0)", x.depends(0, 0), false);
        due("colour(0)", x.colour(0), REFUSED);
        due("colours()", x.colours(), 0);
        due("entry(0, 0)", x.entry(0, 0), REFUSED);
        due("size()", x.size(), 0);
        due("march(1, 1)", x.march(1, 1), REFUSED);
        due("arrived(0)", x.arrived(0), REFUSED);
        due("adjoint(0)", x.adjoint(0), REFUSED);
        DerivativeTape y = new DerivativeTape();
        y.constant(1);
        due("objects are apart", x.value(0), REFUSED);
        due("constant(9)", x.constant(9), 0);
        due("objects are apart", y.value(0), 1);
    }

    private static void input() {
        promise = "2 input";
        DerivativeTape x = new DerivativeTape();
        due("first", x.input(), 0);
        x.constant(9);
        for (int node = 2; node < 6; node++) due("next", x.input(), node);
        due("a sixth input", x.input(), REFUSED);
        due("after a refusal", x.constant(1), 6);
        due("a new input is 0", x.value(5), 0);
        DerivativeTape full = new DerivativeTape();
        for (int node = 0; node < 23; node++) full.constant(node);
        due("the 24th node", full.input(), 23);
        due("a 25th node", full.input(), REFUSED);
        due("one input alone", full.point(1, 1), false);
    }

    private static void constant() {
        promise = "3 constant";
        DerivativeTape x = new DerivativeTape();
        int[] numbers = {0, 65520, 65521, 65522, -1, -65521, -65522, Integer.MAX_VALUE, Integer.MIN_VALUE};
        long[] stand = {0, 65520, 0, 1, 65520, 0, 65520, 2147483647L % 65521, 65521 - 2147483648L % 65521};
        for (int node = 0; node < numbers.length; node++) {
            due("constant(" + numbers[node] + ")", x.constant(numbers[node]), node);
            due("its value", x.value(node), stand[node]);
        }
        for (int node = numbers.length; node < 24; node++) due("constant(7)", x.constant(7), node);
        due("a 25th node", x.constant(7), REFUSED);
        due("value(24)", x.value(24), REFUSED);
    }

    private static void operation() {
        promise = "4 operation";
        DerivativeTape x = withInputs(7, 65519);
        due("ADD", x.operation(ADD, 0, 1), 2);
        due("SUB", x.operation(SUB, 0, 1), 3);
        due("MUL", x.operation(MUL, 0, 1), 4);
        due("DIV", x.operation(DIV, 0, 1), 5);
        due("MIN", x.operation(MIN, 0, 1), 6);
        due("MAX", x.operation(MAX, 0, 1), 7);
        due("POWER", x.operation(POWER, 0, 9), 8);
        due("POWER 0", x.operation(POWER, 0, 0), 9);
        due("the same operand twice", x.operation(SUB, 1, 1), 10);
        due("0 to the power 0", x.operation(POWER, 10, 0), 11);
        due("0 to the power 1", x.operation(POWER, 10, 1), 12);
        int[] values = {7, 65519, 5, 9, 65507, 32757, 7, 65519, 40353607 % 65521, 1, 0, 1, 0};
        for (int node = 0; node < values.length; node++) due("value(" + node + ")", x.value(node), values[node]);
        x.point(0, 0);
        due("0 to the power 9", x.value(8), 0);
        due("0 / b", x.value(5), 0);
    }

    private static void operationRefused() {
        promise = "4 operation, refused";
        DerivativeTape x = withInputs(1, 2);
        due("no such kind", x.operation(7, 0, 1), REFUSED);
        due("no such kind", x.operation(8, 0, 1), REFUSED);
        due("no such kind", x.operation(-1, 0, 1), REFUSED);
        due("no such kind", x.operation(Integer.MAX_VALUE, 0, 1), REFUSED);
        due("no such kind", x.operation(Integer.MIN_VALUE, 0, 1), REFUSED);
        for (int kind = ADD; kind <= POWER; kind++) {
            due("no node a", x.operation(kind, 2, 0), REFUSED);
            due("no node a", x.operation(kind, -1, 0), REFUSED);
            if (kind < POWER) due("no node b", x.operation(kind, 0, 2), REFUSED);
            due("no node b, no exponent", x.operation(kind, 0, -1), REFUSED);
            due("no node b, no exponent", x.operation(kind, 0, 10), REFUSED);
        }
        due("an exponent need be no node", x.operation(POWER, 1, 9), 2);
        due("its value", x.value(2), 512);
        for (int node = 3; node < 24; node++) x.operation(ADD, node - 1, 0);
        due("the 24th node", x.value(23), 533);
        due("a 25th node", x.operation(ADD, 0, 0), REFUSED);
        due("a 25th node", x.operation(POWER, 0, 0), REFUSED);
        due("a 25th node", x.input(), REFUSED);
        due("a 25th node", x.constant(0), REFUSED);
    }

    private static void output() {
        promise = "5 output";
        DerivativeTape x = withInputs(4);
        due("no such node", x.output(1), REFUSED);
        due("no such node", x.output(-1), REFUSED);
        for (int i = 0; i < 5; i++) due("a node may be several", x.output(0), i);
        due("a sixth output", x.output(0), REFUSED);
        due("no sixth output", x.entry(5, 0), REFUSED);
        due("a fifth output", x.entry(4, 0), 1);
    }

    private static void point() {
        promise = "6 point";
        DerivativeTape x = withInputs(0, 0);
        due("point(1, 5)", x.point(1, 5), true);
        due("the other stays", x.value(0), 0);
        due("value(1)", x.value(1), 5);
        due("point(0, -7)", x.point(0, -7), true);
        due("value(0)", x.value(0), 65514);
        due("point(2, 5)", x.point(2, 5), false);
        for (int j : WRONG) due("point(" + j + ", 5)", x.point(j, 5), false);
        x.input();
        due("a refused number is not kept", x.value(2), 0);
    }

    private static void direction() {
        promise = "7 direction";
        DerivativeTape x = withInputs(3, 5);
        x.operation(MUL, 0, 1);
        x.output(2);
        due("0 until it is set", x.forward(0), 0);
        due("direction(0, 65523)", x.direction(0, 65523), true);
        due("forward(0)", x.forward(0), 10);
        due("direction(1, -1)", x.direction(1, -1), true);
        due("forward(0)", x.forward(0), 7);
        due("the point stays", x.value(2), 15);
        due("direction(2, 5)", x.direction(2, 5), false);
        for (int j : WRONG) due("direction(" + j + ", 5)", x.direction(j, 5), false);
        x.input();
        x.output(3);
        due("a refused number is not kept", x.forward(1), 0);
    }

    private static void weight() {
        promise = "8 weight";
        DerivativeTape x = withInputs(3, 5);
        x.output(0);
        x.output(1);
        due("weight(0, 65523)", x.weight(0, 65523), true);
        due("weight(1, -1)", x.weight(1, -1), true);
        due("reverse(0)", x.reverse(0), 2);
        due("reverse(1)", x.reverse(1), 65520);
        due("weight(2, 5)", x.weight(2, 5), false);
        for (int i : WRONG) due("weight(" + i + ", 5)", x.weight(i, 5), false);
        x.output(0);
        due("0 until it is set", x.reverse(0), 2);
    }

    private static void value() {
        promise = "9 value";
        DerivativeTape x = withInputs(8, 3);
        x.operation(DIV, 0, 1);
        x.operation(MUL, 2, 1);
        x.operation(MIN, 0, 1);
        x.operation(MAX, 4, 0);
        due("a / b times b", x.value(3), 8);
        due("8 / 3", x.value(2), 8L * 43681 % 65521);
        due("MIN", x.value(4), 3);
        due("MAX", x.value(5), 8);
        x.point(1, 8);
        due("a rough node has a value", x.value(4), 8);
        due("a rough node has a value", x.value(5), 8);
        due("value(6)", x.value(6), REFUSED);
        for (int node : new int[] {-1, 24, Integer.MIN_VALUE, Integer.MAX_VALUE}) {
            due("value(" + node + ")", x.value(node), REFUSED);
        }
    }

    private static void valueUndefined() {
        promise = "9 value, undefined";
        DerivativeTape x = withInputs(8, 0);
        x.operation(DIV, 0, 1);
        for (int kind = ADD; kind <= MAX; kind++) {
            x.operation(kind, 2, 0);
            x.operation(kind, 0, 2);
        }
        x.operation(POWER, 2, 0);
        x.operation(POWER, 2, 3);
        x.operation(DIV, 1, 1);
        for (int node = 2; node <= 17; node++) due("value(" + node + ")", x.value(node), UNDEFINED);
        x.point(1, 2);
        due("defined elsewhere", x.value(2), 4);
        due("POWER 0", x.value(15), 1);
        due("POWER 3", x.value(16), 64);
        due("b / b", x.value(17), 1);
        x.point(1, 65521);
        due("65521 is 0", x.value(2), UNDEFINED);
    }

    private static void forward() {
        promise = "10 forward";
        DerivativeTape x = withInputs(3, 4);
        x.operation(POWER, 0, 3);
        x.operation(MUL, 2, 1);
        x.operation(DIV, 1, 0);
        x.output(3);
        x.output(4);
        x.output(1);
        x.direction(0, 2);
        x.direction(1, 5);
        due("x ^ 3 * y", x.forward(0), 2 * 27 * 4 + 5 * 27);
        due("y / x: (5 x - 2 y) / x ^ 2 = 7 / 9", x.forward(1), 7L * 58241 % 65521);
        due("y", x.forward(2), 5);
        x.point(0, 0);
        due("a root of x ^ 3", x.forward(0), 0);
        due("undefined", x.forward(1), UNDEFINED);
        due("forward(3)", x.forward(3), REFUSED);
        for (int i : WRONG) due("forward(" + i + ")", x.forward(i), REFUSED);
    }

    private static void reverse() {
        promise = "11 reverse";
        DerivativeTape x = withInputs(3, 4, 9);
        due("no outputs", x.reverse(0), 0);
        x.operation(MUL, 0, 1);
        x.operation(SUB, 3, 0);
        x.operation(ADD, 4, 4);
        x.output(5);
        x.output(3);
        due("no weights", x.reverse(0), 0);
        x.weight(0, 10);
        due("10 * 2 * (y - 1)", x.reverse(0), 60);
        due("10 * 2 * x", x.reverse(1), 60);
        due("not in it", x.reverse(2), 0);
        x.weight(1, -1);
        due("60 - y", x.reverse(0), 56);
        due("60 - x", x.reverse(1), 57);
        x.output(5);
        x.weight(2, -10);
        due("a node that is two outputs", x.reverse(0), 65517);
        due("reverse(3)", x.reverse(3), REFUSED);
        for (int j : WRONG) due("reverse(" + j + ")", x.reverse(j), REFUSED);
        reverseOfKinds();
    }

    /** At x = 2 and y = 5: the derivatives by x and by y, 1 / 5 being 52417 and 2 / 25 being 34071. */
    private static void reverseOfKinds() {
        reverseOfKind(ADD, 0, 1, 1, 1);
        reverseOfKind(SUB, 0, 1, 1, 65520);
        reverseOfKind(MUL, 0, 1, 5, 2);
        reverseOfKind(DIV, 0, 1, 52417, 65521 - 34071);
        reverseOfKind(MIN, 0, 1, 1, 0);
        reverseOfKind(MIN, 1, 0, 1, 0);
        reverseOfKind(MAX, 0, 1, 0, 1);
        reverseOfKind(MAX, 1, 0, 0, 1);
        reverseOfKind(POWER, 0, 4, 32, 0);
        reverseOfKind(POWER, 1, 2, 0, 10);
        reverseOfKind(POWER, 1, 1, 0, 1);
        reverseOfKind(POWER, 1, 0, 0, 0);
        reverseOfKind(DIV, 1, 1, 0, 0);
    }

    private static void reverseOfKind(int kind, int a, int b, int byX, int byY) {
        DerivativeTape x = withInputs(2, 5);
        x.operation(kind, a, b);
        x.output(2);
        x.weight(0, 1);
        due("by x, kind " + kind, x.reverse(0), byX);
        due("by y, kind " + kind, x.reverse(1), byY);
    }

    private static void reverseStates() {
        promise = "11 reverse, states";
        DerivativeTape x = withInputs(3, 3, 0);
        x.operation(MIN, 0, 1);
        x.operation(DIV, 0, 2);
        x.output(3);
        x.output(4);
        x.output(0);
        x.weight(2, 7);
        due("outputs without weight do not matter", x.reverse(0), 7);
        x.weight(0, 1);
        due("rough", x.reverse(0), ROUGH);
        due("rough for every input", x.reverse(2), ROUGH);
        x.weight(1, 1);
        due("undefined goes before rough", x.reverse(0), UNDEFINED);
        x.weight(0, 65521);
        due("undefined", x.reverse(2), UNDEFINED);
        x.weight(1, 0);
        due("neither any more", x.reverse(0), 7);
        x.output(4);
        x.weight(1, 1);
        x.weight(3, -1);
        due("weights that sum up to 0", x.reverse(0), UNDEFINED);
    }

    private static void taylor() {
        promise = "12 taylor";
        DerivativeTape x = withInputs(1);
        x.direction(0, 1);
        x.constant(1);
        x.operation(POWER, 0, 9);
        x.operation(SUB, 1, 0);
        x.operation(ADD, 1, 3);
        x.operation(DIV, 1, 4);
        x.operation(MUL, 2, 2);
        x.output(2);
        x.output(5);
        x.output(3);
        x.output(6);
        due("(1 + t) ^ 18, 8", x.taylor(3, 8), 43758);
        long[] ninth = {1, 9, 36, 84, 126, 126, 84, 36, 9};
        for (int k = 0; k <= 8; k++) {
            due("(1 + t) ^ 9, " + k, x.taylor(0, k), ninth[k]);
            due("1 / (1 - t), " + k, x.taylor(1, k), 1);
            due("-t, " + k, x.taylor(2, k), k == 1 ? 65520 : 0);
        }
        x.direction(0, -2);
        for (int k = 0; k <= 8; k++) {
            due("1 / (1 + 2 t), " + k, x.taylor(1, k), (k % 2 == 0 ? 1 << k : 65521 - (1 << k)));
        }
        x.direction(0, 0);
        due("no direction", x.taylor(1, 0), 1);
        due("no direction", x.taylor(1, 3), 0);
        x.point(0, 2);
        due("undefined", x.taylor(1, 0), UNDEFINED);
        due("undefined", x.taylor(1, 8), UNDEFINED);
        due("k = -1", x.taylor(0, -1), REFUSED);
        due("k = 9", x.taylor(0, 9), REFUSED);
        due("refusals go first", x.taylor(1, 9), REFUSED);
        due("taylor(4, 0)", x.taylor(4, 0), REFUSED);
        for (int i : WRONG) due("taylor(" + i + ", 0)", x.taylor(i, 0), REFUSED);
    }

    private static void second() {
        promise = "13 second";
        DerivativeTape x = withInputs(2, 3);
        x.operation(POWER, 0, 3);
        x.operation(POWER, 1, 2);
        x.operation(MUL, 2, 3);
        x.operation(DIV, 1, 0);
        x.operation(DIV, 0, 0);
        x.output(4);
        x.output(5);
        x.output(6);
        due("x ^ 3 * y ^ 2 by x, x", x.second(0, 0, 0), 6 * 2 * 9);
        due("by x, y", x.second(0, 0, 1), 3 * 4 * 2 * 3);
        due("by y, x", x.second(0, 1, 0), 3 * 4 * 2 * 3);
        due("by y, y", x.second(0, 1, 1), 2 * 8);
        due("y / x by x, x: 2 y / x ^ 3", x.second(1, 0, 0), 3L * 49141 % 65521);
        due("y / x by x, y: -1 / x ^ 2", x.second(1, 0, 1), 65521 - 49141);
        due("y / x by y, y", x.second(1, 1, 1), 0);
        due("x / x by x, x", x.second(2, 0, 0), 0);
        x.point(0, 0);
        due("undefined", x.second(1, 1, 1), UNDEFINED);
        due("x ^ 3 * y ^ 2 at 0", x.second(0, 0, 0), 0);
        due("no such output", x.second(3, 0, 0), REFUSED);
        due("no such input j", x.second(1, 2, 0), REFUSED);
        due("no such input k", x.second(1, 0, 2), REFUSED);
        for (int w : WRONG) {
            due("second(" + w + ", 0, 0)", x.second(w, 0, 0), REFUSED);
            due("second(0, " + w + ", 0)", x.second(0, w, 0), REFUSED);
            due("second(0, 0, " + w + ")", x.second(0, 0, w), REFUSED);
        }
    }

    private static void depends() {
        promise = "14 depends";
        DerivativeTape x = withInputs(1, 2, 3);
        x.operation(SUB, 0, 0);
        x.operation(POWER, 1, 0);
        x.operation(MUL, 3, 4);
        x.operation(MIN, 5, 2);
        x.operation(POWER, 2, 1);
        x.output(2);
        x.output(4);
        x.output(5);
        x.output(6);
        x.output(7);
        boolean[][] due = {
            {false, false, true}, {false, false, false}, {true, false, false}, {true, false, true}, {false, false, true}
        };
        for (int i = 0; i < 5; i++) {
            for (int j = 0; j < 3; j++) due("depends(" + i + ", " + j + ")", x.depends(i, j), due[i][j]);
            due("no such input", x.depends(i, 3), false);
        }
        for (int w : WRONG) {
            due("depends(" + w + ", 2)", x.depends(w, 2), false);
            due("depends(0, " + w + ")", x.depends(0, w), false);
        }
        DerivativeTape y = withInputs(0);
        y.operation(DIV, 0, 0);
        due("no such output", y.depends(0, 0), false);
        y.output(1);
        due("undefined nodes depend too", y.depends(0, 0), true);
    }

    private static void colour() {
        promise = "15 colour";
        DerivativeTape x = withInputs(0, 0, 0, 0, 0);
        for (int j = 0; j < 5; j++) due("no outputs", x.colour(j), 0);
        x.operation(ADD, 0, 2);
        x.operation(ADD, 1, 2);
        x.operation(ADD, 1, 3);
        x.operation(POWER, 4, 0);
        x.operation(ADD, 8, 2);
        x.operation(MUL, 4, 0);
        int[] outputs = {5, 6, 7, 9, 10};
        int[][] due = {{0, 0, 1, 0, 0}, {0, 0, 1, 0, 0}, {0, 0, 1, 1, 0}, {0, 0, 1, 1, 0}, {0, 0, 1, 1, 1}};
        for (int i = 0; i < 5; i++) {
            x.output(outputs[i]);
            for (int j = 0; j < 5; j++) due(i + 1 + " outputs, colour(" + j + ")", x.colour(j), due[i][j]);
        }
        for (int j : WRONG) due("colour(" + j + ")", x.colour(j), REFUSED);
        DerivativeTape gap = withInputs(0, 0, 0);
        gap.operation(ADD, 0, 1);
        gap.operation(ADD, 1, 2);
        gap.output(3);
        gap.output(4);
        due("the least that is free", gap.colour(2), 0);
        due("no such input", gap.colour(3), REFUSED);
    }

    private static void colours() {
        promise = "16 colours";
        DerivativeTape x = new DerivativeTape();
        due("no input", x.colours(), 0);
        x.constant(1);
        x.output(0);
        due("no input", x.colours(), 0);
        x.input();
        due("one input", x.colours(), 1);
        for (int j = 1; j < 5; j++) x.input();
        due("no conflict", x.colours(), 1);
        x.operation(ADD, 1, 2);
        x.output(6);
        due("one conflict", x.colours(), 2);
        x.operation(ADD, 3, 4);
        x.output(7);
        due("two conflicts apart", x.colours(), 2);
        x.operation(MUL, 6, 7);
        x.operation(MAX, 8, 5);
        x.output(9);
        due("all in conflict", x.colours(), 5);
        due("the last colour", x.colour(4), 4);
    }

    private static void entry() {
        promise = "17 entry";
        DerivativeTape x = withInputs(3, 4, 0);
        x.operation(POWER, 0, 2);
        x.operation(MUL, 3, 1);
        x.operation(MIN, 0, 1);
        x.operation(MAX, 0, 1);
        x.operation(DIV, 0, 2);
        x.output(4);
        x.output(5);
        x.output(6);
        x.output(7);
        long[][] due = {{24, 9, 0}, {1, 0, 0}, {0, 1, 0}, {UNDEFINED, UNDEFINED, UNDEFINED}};
        for (int i = 0; i < 4; i++) {
            for (int j = 0; j < 3; j++) due("entry(" + i + ", " + j + ")", x.entry(i, j), due[i][j]);
        }
        x.direction(0, 5);
        x.weight(0, 5);
        due("direction and weight do not matter", x.entry(0, 0), 24);
        x.point(1, 3);
        due("rough, also where it does not depend", x.entry(1, 2), ROUGH);
        due("entry(4, 0)", x.entry(4, 0), REFUSED);
        due("entry(3, 3)", x.entry(3, 3), REFUSED);
        for (int w : WRONG) {
            due("entry(" + w + ", 0)", x.entry(w, 0), REFUSED);
            due("entry(0, " + w + ")", x.entry(0, w), REFUSED);
        }
    }

    /** VALUES: what is rough, and that undefined goes before it. */
    private static void roughness() {
        promise = "10 to 17, rough";
        DerivativeTape x = withInputs(6, 2, 0);
        x.operation(MIN, 0, 0);
        x.operation(POWER, 3, 0);
        x.operation(MAX, 3, 1);
        x.operation(DIV, 3, 2);
        x.operation(MIN, 1, 0);
        for (int node = 3; node <= 7; node++) x.output(node);
        int[] states = {ROUGH, ROUGH, ROUGH, UNDEFINED};
        for (int i = 0; i < 4; i++) {
            due("forward(" + i + ")", x.forward(i), states[i]);
            due("taylor(" + i + ", 0)", x.taylor(i, 0), states[i]);
            due("taylor(" + i + ", 8)", x.taylor(i, 8), states[i]);
            due("second(" + i + ", 0, 1)", x.second(i, 0, 1), states[i]);
            due("entry(" + i + ", 2)", x.entry(i, 2), states[i]);
        }
        due("not rough", x.entry(4, 1), 1);
        due("the value of POWER 0", x.value(4), 1);
        x.point(1, 7);
        due("the lesser operand is rough", x.forward(2), ROUGH);
        DerivativeTape y = withInputs(5);
        y.constant(3);
        y.constant(3);
        y.operation(MIN, 1, 2);
        y.operation(SUB, 3, 0);
        y.output(3);
        y.output(4);
        due("a folded node may be rough", y.entry(0, 0), ROUGH);
        due("and makes others rough", y.entry(1, 0), ROUGH);
    }

    private static void size() {
        promise = "18 size";
        DerivativeTape x = withInputs(1, 2);
        x.operation(ADD, 0, 1);
        due("no output", x.size(), 0);
        x.output(0);
        due("one input", x.size(), 1);
        x.output(0);
        due("the same node", x.size(), 1);
        x.output(2);
        due("an operation over it", x.size(), 3);
        x.constant(4);
        due("a node that is not live", x.size(), 3);
        x.output(3);
        due("a constant", x.size(), 4);
    }

    /** How many of two operations over the inputs x and y are counted beside x and y. */
    private static int sizeOfTwo(int kind, int a, int b, int otherKind, int c, int d) {
        DerivativeTape x = withInputs(1, 2);
        x.operation(kind, a, b);
        x.operation(otherKind, c, d);
        x.output(0);
        x.output(1);
        x.output(2);
        x.output(3);
        return x.size() - 2;
    }

    private static void sizeAlike() {
        promise = "18 size, alike";
        for (int kind = ADD; kind <= MAX; kind++) {
            boolean crosswise = kind != SUB && kind != DIV;
            due("kind " + kind + " twice", sizeOfTwo(kind, 0, 1, kind, 0, 1), 1);
            due("kind " + kind + " crosswise", sizeOfTwo(kind, 0, 1, kind, 1, 0), crosswise ? 1 : 2);
            due("kind " + kind + " over others", sizeOfTwo(kind, 0, 1, kind, 0, 0), 2);
            due("kind " + kind + " and the next", sizeOfTwo(kind, 0, 1, (kind + 1) % 6, 0, 1), 2);
        }
        due("POWER twice", sizeOfTwo(POWER, 0, 0, POWER, 0, 0), 1);
        due("other exponents", sizeOfTwo(POWER, 0, 1, POWER, 0, 2), 2);
        due("other operands", sizeOfTwo(POWER, 0, 1, POWER, 1, 1), 2);
        due("POWER 2 and x * x", sizeOfTwo(POWER, 0, 2, MUL, 0, 0), 2);
        due("POWER 0 of other operands", sizeOfTwo(POWER, 0, 0, POWER, 1, 0), 2);
        DerivativeTape x = withInputs(1, 2);
        x.operation(ADD, 0, 1);
        x.operation(ADD, 1, 0);
        x.operation(SUB, 2, 0);
        x.operation(SUB, 3, 0);
        x.operation(MUL, 4, 3);
        x.operation(MUL, 2, 5);
        x.output(6);
        x.output(7);
        due("alike through operands that are alike", x.size(), 5);
        x.point(0, 2);
        due("inputs of the same value are not alike", x.size(), 5);
    }

    private static void sizeFolded() {
        promise = "18 size, folded";
        DerivativeTape x = withInputs(4);
        x.constant(2);
        x.constant(65523);
        x.operation(POWER, 1, 2);
        x.constant(4);
        x.operation(MIN, 1, 2);
        x.operation(SUB, 1, 2);
        x.output(1);
        x.output(2);
        due("constants of the same number", x.size(), 1);
        x.output(5);
        due("a rough folded node", x.size(), 1);
        x.output(3);
        x.output(4);
        due("an operation and a constant", x.size(), 2);
        DerivativeTape y = withInputs(4);
        y.constant(0);
        y.constant(5);
        y.constant(5);
        y.operation(DIV, 2, 1);
        y.operation(DIV, 3, 1);
        y.operation(POWER, 1, 0);
        y.constant(1);
        y.output(4);
        due("an undefined operation is not folded", y.size(), 3);
        y.output(5);
        due("but may be alike", y.size(), 3);
        y.output(0);
        due("an input is not alike to a constant", y.size(), 4);
        y.output(6);
        y.output(7);
        due("POWER 0 of a constant", y.size(), 5);
        DerivativeTape first = new DerivativeTape();
        first.constant(5);
        first.constant(-65516);
        first.output(0);
        first.output(1);
        due("the first node is alike too", first.size(), 1);
        DerivativeTape z = withInputs(4);
        z.operation(POWER, 0, 0);
        z.constant(1);
        z.output(1);
        z.output(2);
        due("POWER 0 of an input is not folded", z.size(), 3);
    }

    private static void sizeLive() {
        promise = "18 size, live";
        DerivativeTape x = withInputs(4);
        x.constant(2);
        x.constant(3);
        x.operation(ADD, 1, 2);
        x.output(3);
        due("operands of a folded node are not live", x.size(), 1);
        x.operation(MUL, 0, 3);
        x.output(4);
        due("not through others either", x.size(), 3);
        x.operation(DIV, 0, 3);
        due("what no output is made from", x.size(), 3);
        x.operation(POWER, 5, 0);
        x.output(6);
        due("operands of a POWER 0 are live", x.size(), 5);
    }

    /** Two inputs; the outputs are x * y and x + y. */
    private static DerivativeTape productAndSum(int x0, int y0) {
        DerivativeTape x = withInputs(x0, y0);
        x.operation(MUL, 0, 1);
        x.operation(ADD, 0, 1);
        x.output(2);
        x.output(3);
        return x;
    }

    private static void march() {
        promise = "19 march";
        DerivativeTape x = productAndSum(2, 3);
        for (int n = 1; n <= 20; n++) {
            for (int s = 1; s <= 5; s++) due("march(" + n + ", " + s + ")", x.march(n, s), leastAgain(n, s));
        }
        int[] with20 = {190, 65, 45, 39, 33};
        for (int s = 1; s <= 5; s++) due("march(20, " + s + ")", x.march(20, s), with20[s - 1]);
        due("the point stays", x.value(2), 6);
        due("march(2, 1)", x.march(2, 1), 1);
        due("x * y * (x + y)", x.arrived(0), 30);
        due("x * y + x + y", x.arrived(1), 11);
    }

    /** All limits at once: 24 nodes, 5 inputs, 5 outputs, 20 steps; x0 goes round through all inputs. */
    private static void fullTape() {
        promise = "limits";
        DerivativeTape x = withInputs(3, 5, 7, 11, 13);
        for (int node = 5; node < 24; node++) x.operation(POWER, node - 5, 1);
        int[] outputs = {21, 22, 23, 19, 20};
        for (int node : outputs) x.output(node);
        for (int i = 0; i < 5; i++) x.weight(i, i + 1);
        x.direction(0, 1);
        due("march(20, 5)", x.march(20, 5), 33);
        int[] arrived = {3, 5, 7, 11, 13};
        for (int j = 0; j < 5; j++) {
            due("arrived(" + j + ")", x.arrived(j), arrived[j]);
            due("adjoint(" + j + ")", x.adjoint(j), j + 1);
        }
        due("march(1, 1)", x.march(1, 1), 0);
        due("arrived(0)", x.arrived(0), 5);
        due("arrived(4)", x.arrived(4), 3);
        due("adjoint(0)", x.adjoint(0), 5);
        due("adjoint(4)", x.adjoint(4), 4);
        due("reverse(0)", x.reverse(0), 5);
        due("taylor(4, 1)", x.taylor(4, 1), 1);
        due("taylor(4, 8)", x.taylor(4, 8), 0);
        due("second(4, 0, 4)", x.second(4, 0, 4), 0);
        due("entry(3, 4)", x.entry(3, 4), 1);
        due("size()", x.size(), 24);
        due("value(23)", x.value(23), 11);
        due("value(24)", x.value(24), REFUSED);
        due("colours()", x.colours(), 1);
    }

    private static final int[][] LEAST = new int[21][6];

    private static int leastAgain(int n, int s) {
        if (n == 1) return 0;
        if (s == 1) return n * (n - 1) / 2;
        if (LEAST[n][s] > 0) return LEAST[n][s];
        int least = 1000;
        for (int k = 1; k < n; k++) least = Math.min(least, k + leastAgain(n - k, s - 1) + leastAgain(k, s));
        LEAST[n][s] = least;
        return least;
    }

    private static void marchStates() {
        promise = "19 march, states";
        // The list (x, y) goes to (min(x, 5), 1 / y - 1): undefined at y = 0, rough at x = 5.
        DerivativeTape x = withInputs(4, 1);
        x.constant(5);
        x.constant(1);
        x.operation(ADD, 0, 3);
        x.operation(MIN, 0, 2);
        x.operation(DIV, 3, 1);
        x.operation(SUB, 6, 3);
        x.output(5);
        x.output(7);
        due("one step", x.march(1, 1), 0);
        due("arrived(1)", x.arrived(1), 0);
        due("undefined in the second step", x.march(2, 1), UNDEFINED);
        due("nothing changes", x.arrived(0), 4);
        x.point(0, 9);
        due("one step", x.march(1, 3), 0);
        due("rough and undefined in the second step", x.march(2, 2), UNDEFINED);
        x.point(0, 5);
        due("rough in the first step decides", x.march(2, 2), ROUGH);
        due("rough in the first step decides", x.march(20, 5), ROUGH);
        x.point(0, 9);
        x.point(1, 2);
        due("rough in the second step decides", x.march(4, 2), ROUGH);
        due("nothing changes", x.arrived(1), 0);
        x.point(1, 0);
        due("undefined in the first step", x.march(1, 1), UNDEFINED);
        x.weight(0, 1);
        due("an output without weight matters", x.march(1, 1), UNDEFINED);
        due("refusals go first", x.march(21, 1), REFUSED);
        DerivativeTape y = withInputs(0);
        y.operation(DIV, 0, 0);
        y.operation(MIN, 0, 0);
        y.output(0);
        due("nodes that are no outputs do not matter", y.march(3, 1), 3);
    }

    private static void marchRefused() {
        promise = "19 march, refused";
        DerivativeTape x = withInputs(2, 3);
        due("no outputs", x.march(1, 1), REFUSED);
        x.output(0);
        due("fewer outputs", x.march(1, 1), REFUSED);
        x.output(1);
        due("as many", x.march(1, 1), 0);
        int[] wrong = {0, -1, 21, Integer.MIN_VALUE, Integer.MAX_VALUE};
        for (int n : wrong) due("march(" + n + ", 1)", x.march(n, 1), REFUSED);
        for (int s : wrong) due("march(1, " + s + ")", x.march(1, s), REFUSED);
        due("march(1, 6)", x.march(1, 6), REFUSED);
        due("march(20, 5)", x.march(20, 5), 33);
        x.output(1);
        due("more outputs", x.march(1, 1), REFUSED);
        x.input();
        due("as many again", x.march(1, 1), 0);
        DerivativeTape none = new DerivativeTape();
        none.constant(1);
        due("none", none.march(1, 1), REFUSED);
        none.output(0);
        due("no input", none.march(1, 1), REFUSED);
    }

    private static void arrived() {
        promise = "20 arrived";
        DerivativeTape x = productAndSum(2, 3);
        due("no march yet", x.arrived(0), REFUSED);
        x.march(0, 1);
        due("a refused march is none", x.arrived(0), REFUSED);
        x.march(1, 1);
        due("arrived(0)", x.arrived(0), 6);
        due("arrived(1)", x.arrived(1), 5);
        due("arrived(2)", x.arrived(2), REFUSED);
        for (int j : WRONG) due("arrived(" + j + ")", x.arrived(j), REFUSED);
        x.point(0, 9);
        x.input();
        x.output(4);
        due("it stays with the march", x.arrived(0), 6);
        due("its list has no number 2", x.arrived(2), REFUSED);
        x.point(2, 8);
        x.march(3, 2);
        due("the latest march", x.arrived(0), 12 * 27 * 39);
        due("the latest march", x.arrived(1), 27 * 12 + 39);
        due("the latest march", x.arrived(2), 8);
        due("its list has no number 3", x.arrived(3), REFUSED);
    }

    private static void adjoint() {
        promise = "21 adjoint";
        DerivativeTape x = productAndSum(2, 3);
        due("no march yet", x.adjoint(0), REFUSED);
        x.march(21, 1);
        due("a refused march is none", x.adjoint(0), REFUSED);
        x.march(2, 1);
        due("no weights", x.adjoint(0), 0);
        x.weight(0, 1);
        x.weight(1, 100);
        due("the weights at the march", x.adjoint(0), 0);
        x.march(2, 1);
        due("2 x y + y y + 100 (y + 1)", x.adjoint(0), 12 + 9 + 400);
        due("x x + 2 x y + 100 (x + 1)", x.adjoint(1), 4 + 12 + 300);
        due("adjoint(2)", x.adjoint(2), REFUSED);
        for (int j : WRONG) due("adjoint(" + j + ")", x.adjoint(j), REFUSED);
        x.weight(0, 7);
        x.point(0, 50);
        x.input();
        due("it stays with the march", x.adjoint(0), 421);
        due("its list has no number 2", x.adjoint(2), REFUSED);
        x.march(1, 1);
        due("a refused march changes nothing", x.adjoint(1), 316);
        x.output(0);
        x.weight(2, 1);
        x.march(1, 5);
        due("7 y + 100 + 1", x.adjoint(0), 122);
        due("7 x + 100", x.adjoint(1), 450);
        due("not in it", x.adjoint(2), 0);
        adjointThroughChoice();
    }

    private static void adjointThroughChoice() {
        DerivativeTape x = withInputs(3);
        x.constant(100);
        x.operation(POWER, 0, 3);
        x.operation(MIN, 2, 1);
        x.output(3);
        x.weight(0, 2);
        due("march(1, 1)", x.march(1, 1), 0);
        due("2 * 3 x ^ 2", x.adjoint(0), 54);
        due("the second step chooses the constant", x.march(2, 1), 1);
        due("arrived(0)", x.arrived(0), 100);
        due("adjoint(0)", x.adjoint(0), 0);
        x.point(0, 1);
        due("march(5, 3)", x.march(5, 3), leastAgain(5, 3));
        due("2 * 3 ^ 5", x.adjoint(0), 486);
    }

    private static void refusedCallsChangeNothing() {
        promise = "REFUSED";
        DerivativeTape x = productAndSum(2, 3);
        x.weight(0, 1);
        x.direction(0, 1);
        x.march(1, 1);
        for (int w : new int[] {-1, 99, Integer.MIN_VALUE, Integer.MAX_VALUE}) {
            x.operation(w, 0, 0);
            x.operation(ADD, w, 0);
            x.operation(ADD, 0, w);
            x.operation(POWER, 0, w);
            x.output(w);
            x.point(w, 9);
            x.direction(w, 9);
            x.weight(w, 9);
            x.value(w);
            x.march(w, 1);
            x.march(1, w);
            x.second(0, w, 0);
            x.entry(0, w);
            x.taylor(0, w);
        }
        due("value(3)", x.value(3), 5);
        due("value(4)", x.value(4), REFUSED);
        due("forward(0)", x.forward(0), 3);
        due("reverse(1)", x.reverse(1), 2);
        due("size()", x.size(), 4);
        due("arrived(0)", x.arrived(0), 6);
        due("adjoint(0)", x.adjoint(0), 3);
        due("the next node", x.constant(1), 4);
        due("the next output", x.output(4), 2);
    }
}
