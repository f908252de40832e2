/** STEPS and "Promise 19" to "Promise 21": a test of its own for each sentence that names a boundary case. */
public final class MarchTest extends Sentences {

    /** A(1, s), A(2, s), .. A(20, s), worked out apart from the program, for s = 1 .. 5. */
    private static final int[][] AGAIN = {
        {0, 1, 3, 6, 10, 15, 21, 28, 36, 45, 55, 66, 78, 91, 105, 120, 136, 153, 171, 190},
        {0, 1, 2, 4, 6, 8, 11, 14, 17, 20, 24, 28, 32, 36, 40, 45, 50, 55, 60, 65},
        {0, 1, 2, 3, 5, 7, 9, 11, 13, 15, 18, 21, 24, 27, 30, 33, 36, 39, 42, 45},
        {0, 1, 2, 3, 4, 6, 8, 10, 12, 14, 16, 18, 20, 22, 24, 27, 30, 33, 36, 39},
        {0, 1, 2, 3, 4, 5, 7, 9, 11, 13, 15, 17, 19, 21, 23, 25, 27, 29, 31, 33},
    };

    private static final int[] NONE_OF_FIVE = {-1, -2, 5, 6, 20, 65521, LEAST_INT, GREATEST_INT};

    public static void main(String[] args) {
        oneStep();
        noStepsAgain();
        oneSnapshot();
        leastOverAllCuts();
        pointStays();
        asManyOutputsAsInputs();
        orNone();
        numberOfSteps();
        numberOfSnapshots();
        someStep();
        firstStepDecides();
        undefinedElseRough();
        nothingChanges();
        answerForThisMarch();
        arrivedNone();
        arrivedNoNumber();
        arrivedLatest();
        adjointNone();
        adjointNoNumber();
        adjointWeights();
        adjointThroughAllSteps();
        Check.finish();
    }

    private static DerivativeTape identity(int inputs) {
        DerivativeTape x = new DerivativeTape();
        for (int j = 0; j < inputs; j++) x.output(x.input());
        return x;
    }

    /** The list (x, y) goes to (min(x, 5), 1 / y - 1): rough at x = 5, undefined at y = 0. */
    private static DerivativeTape roughThenUndefined(int x0, int y0) {
        DerivativeTape x = withInputs(x0, y0);
        x.constant(5);
        x.constant(1);
        x.operation(MIN, 0, 2);
        x.operation(DIV, 3, 1);
        x.operation(SUB, 5, 3);
        x.output(4);
        x.output(6);
        return x;
    }

    private static void oneStep() {
        sentence("a STEP makes of a list of numbers, one for each input, the list of the values of the outputs at these as the point.");
        DerivativeTape x = withInputs(2, 3, 4);
        x.output(1);
        x.output(2);
        x.output(1);
        int[][] lists = {{3, 4, 3}, {4, 3, 4}, {3, 4, 3}};
        for (int n = 1; n <= 3; n++) {
            x.march(n, 1);
            for (int j = 0; j < 3; j++) due("after " + n + " steps, number " + j, x.arrived(j), lists[n - 1][j]);
        }
        DerivativeTape wrap = withInputs(65520);
        wrap.constant(1);
        wrap.operation(ADD, 0, 1);
        wrap.output(2);
        wrap.march(1, 1);
        due("65520 + 1", wrap.arrived(0), 0);
        wrap.march(20, 1);
        due("65520 + 20", wrap.arrived(0), 19);
        DerivativeTape one = withInputs(8);
        one.constant(6);
        one.output(1);
        one.march(20, 5);
        due("a constant step", one.arrived(0), 6);
        due("a constant step", one.adjoint(0), 0);
    }

    private static void noStepsAgain() {
        sentence("A(1, s) = 0");
        for (int s = 1; s <= 5; s++) due("march(1, " + s + ")", productAndSum(2, 3).march(1, s), 0);
    }

    private static void oneSnapshot() {
        sentence("A(n, 1) = n * (n - 1) / 2");
        for (int n = 1; n <= 20; n++) due("march(" + n + ", 1)", productAndSum(2, 3).march(n, 1), n * (n - 1) / 2);
    }

    private static void leastOverAllCuts() {
        sentence("for n, s > 1 A(n, s) is the least of k + A(n - k, s - 1) + A(k, s) over k = 1 .. n - 1.");
        DerivativeTape x = productAndSum(2, 3);
        for (int s = 1; s <= 5; s++) {
            for (int n = 1; n <= 20; n++) {
                due("march(" + n + ", " + s + ")", x.march(n, s), AGAIN[s - 1][n - 1]);
                due("the first march, " + n + ", " + s, identity(1).march(n, s), AGAIN[s - 1][n - 1]);
            }
        }
    }

    private static void pointStays() {
        sentence("march: Goes n steps from the point (which stays), and back.");
        DerivativeTape x = productAndSum(2, 3);
        x.direction(0, 1);
        x.weight(0, 1);
        for (int n : new int[] {1, 2, 20}) {
            x.march(n, 3);
            due("the point", x.value(0), 2);
            due("the point", x.value(1), 3);
            due("the values", x.value(2), 6);
            due("the direction", x.forward(0), 3);
            due("the weight", x.reverse(0), 3);
        }
        x.march(1, 1);
        x.march(1, 1);
        due("the second march begins at the point again", x.arrived(0), 6);
    }

    private static void asManyOutputsAsInputs() {
        sentence("march: REFUSED when there are not as many outputs as inputs");
        for (int inputs = 1; inputs <= 5; inputs++) {
            DerivativeTape x = new DerivativeTape();
            for (int j = 0; j < inputs; j++) x.input();
            for (int outputs = 0; outputs <= 5; outputs++) {
                String of = inputs + " inputs, " + outputs + " outputs";
                due(of, x.march(3, 1), outputs == inputs ? 3 : REFUSED);
                x.output(0);
            }
        }
        DerivativeTape more = identity(2);
        due("two of each", more.march(1, 1), 0);
        more.input();
        due("an input more", more.march(1, 1), REFUSED);
        more.output(0);
        due("three of each", more.march(1, 1), 0);
    }

    private static void orNone() {
        sentence("march: REFUSED when there are ... none");
        due("no node at all", new DerivativeTape().march(1, 1), REFUSED);
        due("constants alone", withConstants(5).march(1, 1), REFUSED);
        DerivativeTape x = withConstants(1);
        x.output(0);
        due("an output and no input", x.march(1, 1), REFUSED);
        due("one of each", identity(1).march(1, 1), 0);
    }

    private static void numberOfSteps() {
        sentence("march: REFUSED when ... n is not 1 .. 20");
        for (int n : new int[] {0, -1, 21, 22, 65522, LEAST_INT, GREATEST_INT}) {
            due("march(" + n + ", 1)", identity(2).march(n, 1), REFUSED);
        }
        due("march(1, 5)", identity(2).march(1, 5), 0);
        due("march(20, 5)", identity(2).march(20, 5), 33);
    }

    private static void numberOfSnapshots() {
        sentence("march: REFUSED when ... s is not 1 .. 5.");
        for (int s : new int[] {0, -1, 6, 7, 20, 65522, LEAST_INT, GREATEST_INT}) {
            due("march(3, " + s + ")", identity(2).march(3, s), REFUSED);
        }
        due("march(3, 1)", identity(2).march(3, 1), 3);
        due("march(3, 5)", identity(2).march(3, 5), 2);
    }

    private static void someStep() {
        sentence("march: if in some step an output is undefined at the list of numbers that it is made of, or rough");
        // x goes to x - 1, and y to 1 / x or to MIN(x, 0): the step from x = 0 is the one that fails.
        for (int kind = DIV; kind <= MIN; kind++) {
            for (int steps = 0; steps <= 20; steps++) {
                DerivativeTape x = withInputs(steps, 9);
                x.constant(1);
                x.constant(0);
                x.operation(SUB, 0, 2);
                x.operation(kind, kind == DIV ? 2 : 0, kind == DIV ? 0 : 3);
                x.output(4);
                x.output(5);
                if (steps > 0) due("as many steps as go well", x.march(steps, 1), steps * (steps - 1) / 2);
                if (steps < 20) due("one more", x.march(steps + 1, 1), kind == DIV ? UNDEFINED : ROUGH);
                if (steps < 20) due("all 20", x.march(20, 5), kind == DIV ? UNDEFINED : ROUGH);
            }
        }
        DerivativeTape other = withInputs(0);
        other.operation(DIV, 0, 0);
        other.operation(MIN, 0, 0);
        other.output(0);
        due("nodes that are no outputs", other.march(3, 1), 3);
        DerivativeTape last = withInputs(1, 1);
        last.output(0);
        last.output(last.operation(MAX, 0, 1));
        last.weight(0, 1);
        due("an output without weight, the last one", last.march(1, 1), ROUGH);
    }

    private static void firstStepDecides() {
        sentence("march: the first such step decides");
        due("rough in step 1, undefined in step 2", roughThenUndefined(5, 1).march(2, 1), ROUGH);
        due("rough in step 1, undefined in step 2", roughThenUndefined(5, 1).march(20, 5), ROUGH);
        due("undefined in step 1, rough in step 2", roughThenUndefined(9, 0).march(20, 5), UNDEFINED);
        // From y = 2 the list comes to 1 / 2 - 1, which is not 0: x = 9 is 5, and rough, in step 2.
        due("rough in step 2 alone", roughThenUndefined(9, 2).march(2, 1), ROUGH);
        due("step 1 alone", roughThenUndefined(9, 2).march(1, 1), 0);
    }

    private static void undefinedElseRough() {
        sentence("march: UNDEFINED when an output is undefined in it, else ROUGH");
        due("both in step 1", roughThenUndefined(5, 0).march(1, 1), UNDEFINED);
        due("both in step 2", roughThenUndefined(9, 1).march(2, 1), UNDEFINED);
        due("both in step 2", roughThenUndefined(9, 1).march(20, 5), UNDEFINED);
        DerivativeTape x = undefinedRoughSmooth();
        due("the undefined output first", x.march(1, 1), UNDEFINED);
        DerivativeTape y = withInputs(0, 0);
        y.output(y.operation(DIV, 0, 1));
        y.output(y.operation(MAX, 0, 1));
        due("the undefined output first", y.march(1, 1), UNDEFINED);
        y.point(1, 1);
        due("neither", y.march(1, 1), 0);
        y.point(0, 1);
        due("the rough one alone", y.march(1, 1), ROUGH);
    }

    private static void nothingChanges() {
        sentence("march: (and nothing changes)");
        DerivativeTape x = roughThenUndefined(4, 1);
        x.weight(0, 6);
        x.weight(1, 7);
        due("one step", x.march(1, 1), 0);
        due("undefined in step 2", x.march(2, 1), UNDEFINED);
        dueFirstMarch(x);
        x.weight(0, 60);
        x.point(0, 5);
        due("rough in step 1", x.march(1, 1), ROUGH);
        dueFirstMarch(x);
        x.point(0, 9);
        x.point(1, 2);
        due("rough in step 2", x.march(9, 1), ROUGH);
        dueFirstMarch(x);
        due("the point", x.value(0), 9);
        due("the point", x.value(1), 2);
        due("refused", x.march(0, 1), REFUSED);
        dueFirstMarch(x);
        DerivativeTape none = roughThenUndefined(5, 1);
        due("rough", none.march(1, 1), ROUGH);
        due("no march yet", none.arrived(0), REFUSED);
        due("no march yet", none.adjoint(0), REFUSED);
    }

    /** From (4, 1) with the weights 6 and 7: y ends at 0, and its derivative is -1 / y ^ 2. */
    private static void dueFirstMarch(DerivativeTape x) {
        due("arrived(0)", x.arrived(0), 4);
        due("arrived(1)", x.arrived(1), 0);
        due("adjoint(0)", x.adjoint(0), 6);
        due("adjoint(1)", x.adjoint(1), 65514);
    }

    private static void answerForThisMarch() {
        sentence("march: Otherwise answers A(n, s), and arrived and adjoint answer for this march.");
        DerivativeTape x = productAndSum(2, 3);
        x.weight(0, 1);
        for (int s = 1; s <= 5; s++) {
            due("march(3, " + s + ")", x.march(3, s), AGAIN[s - 1][2]);
            // (2, 3), (6, 5), (30, 11), (330, 41): the same for every number of snapshots.
            due("arrived(0)", x.arrived(0), 330);
            due("arrived(1)", x.arrived(1), 41);
            due("adjoint(0)", x.adjoint(0), 11 * 21 + 30 * 4);
            due("adjoint(1)", x.adjoint(1), 11 * 16 + 30 * 3);
            due("march(1, " + s + ")", x.march(1, s), 0);
            due("arrived(0)", x.arrived(0), 6);
            due("adjoint(0)", x.adjoint(0), 3);
        }
    }

    private static void arrivedNone() {
        sentence("arrived: REFUSED when there was none");
        for (int j = -1; j <= 5; j++) due("a new object", new DerivativeTape().arrived(j), REFUSED);
        DerivativeTape x = productAndSum(2, 3);
        for (int j = -1; j <= 5; j++) due("no march", x.arrived(j), REFUSED);
        x.march(21, 1);
        x.march(1, 6);
        for (int j = -1; j <= 5; j++) due("marches that were refused", x.arrived(j), REFUSED);
    }

    private static void arrivedNoNumber() {
        sentence("arrived: or that list has no number j.");
        for (int inputs = 1; inputs <= 5; inputs++) {
            DerivativeTape x = identity(inputs);
            x.march(2, 2);
            for (int j = 0; j < 5; j++) due(inputs + " inputs, arrived(" + j + ")", x.arrived(j), j < inputs ? 0 : REFUSED);
            for (int j : NONE_OF_FIVE) due(inputs + " inputs, arrived(" + j + ")", x.arrived(j), REFUSED);
            due("an input more", x.input(), inputs == 5 ? REFUSED : inputs);
            due("an output more", x.output(0), inputs == 5 ? REFUSED : inputs);
            due("the list is no longer than before", x.arrived(inputs), REFUSED);
            due("and no shorter", x.arrived(inputs - 1), 0);
        }
    }

    private static void arrivedLatest() {
        sentence("arrived: Number j (as of output j) of the list to which the latest march that answered A came");
        DerivativeTape x = productAndSum(2, 3);
        x.march(1, 1);
        due("the first march", x.arrived(0), 6);
        due("the first march", x.arrived(1), 5);
        x.point(0, 10);
        due("a point set afterwards", x.arrived(0), 6);
        x.march(2, 1);
        due("the second march", x.arrived(0), 390);
        due("the second march", x.arrived(1), 43);
        x.march(0, 1);
        due("a refused one", x.arrived(0), 390);
        x.input();
        x.march(1, 1);
        due("another refused one", x.arrived(1), 43);
        x.output(4);
        x.point(2, 77);
        x.march(1, 1);
        due("a longer list", x.arrived(2), 77);
        due("a longer list", x.arrived(1), 13);
    }

    private static void adjointNone() {
        sentence("adjoint: REFUSED when there was none");
        for (int j = -1; j <= 5; j++) due("a new object", new DerivativeTape().adjoint(j), REFUSED);
        DerivativeTape x = productAndSum(2, 3);
        x.weight(0, 1);
        for (int j = -1; j <= 5; j++) due("no march", x.adjoint(j), REFUSED);
        x.march(0, 1);
        x.march(1, 0);
        for (int j = -1; j <= 5; j++) due("marches that were refused", x.adjoint(j), REFUSED);
    }

    private static void adjointNoNumber() {
        sentence("adjoint: or that list has no number j.");
        for (int inputs = 1; inputs <= 5; inputs++) {
            DerivativeTape x = identity(inputs);
            for (int i = 0; i < inputs; i++) x.weight(i, i + 1);
            x.march(2, 2);
            for (int j = 0; j < 5; j++) due(inputs + " inputs, adjoint(" + j + ")", x.adjoint(j), j < inputs ? j + 1 : REFUSED);
            for (int j : NONE_OF_FIVE) due(inputs + " inputs, adjoint(" + j + ")", x.adjoint(j), REFUSED);
            x.input();
            x.output(0);
            due("the list is no longer than before", x.adjoint(inputs), REFUSED);
            due("and no shorter", x.adjoint(inputs - 1), inputs);
        }
    }

    private static void adjointWeights() {
        sentence("adjoint: the weight that output i had at the latest march that answered A");
        DerivativeTape x = productAndSum(2, 3);
        x.march(1, 1);
        due("no weights", x.adjoint(0), 0);
        x.weight(0, 10);
        x.weight(1, 100);
        due("weights set afterwards", x.adjoint(0), 0);
        x.march(1, 1);
        due("by x", x.adjoint(0), 130);
        due("by y", x.adjoint(1), 120);
        x.weight(0, 0);
        x.weight(1, 65521);
        x.march(21, 1);
        due("a march that was refused", x.adjoint(0), 130);
        x.march(1, 1);
        due("weights that are 0 again", x.adjoint(0), 0);
        due("weights that are 0 again", x.adjoint(1), 0);
        DerivativeTape twice = withInputs(2, 3);
        twice.output(0);
        twice.output(0);
        twice.weight(0, 10);
        twice.weight(1, 65520);
        twice.march(1, 1);
        due("a node that is two outputs", twice.adjoint(0), 9);
        due("a node that is no output", twice.adjoint(1), 0);
    }

    private static void adjointThroughAllSteps() {
        sentence("adjoint: (by the expressions of all its steps, put into one another)");
        DerivativeTape x = withInputs(1);
        x.constant(2);
        x.output(x.operation(MUL, 0, 1));
        x.weight(0, 3);
        int power = 1;
        for (int n = 1; n <= 20; n++) {
            power = 2 * power % 65521;
            x.march(n, 5);
            due("2 ^ " + n, x.arrived(0), power);
            due("3 * 2 ^ " + n, x.adjoint(0), 3 * power % 65521);
        }
        // MIN(x + 1, 2 x) at 0: x + 1 is the greater one there, at 2 and beyond it is the lesser.
        DerivativeTape choice = withInputs(3);
        choice.constant(1);
        choice.operation(ADD, 0, 1);
        choice.operation(ADD, 0, 0);
        choice.output(choice.operation(MIN, 2, 3));
        choice.weight(0, 1);
        due("march(4, 2)", choice.march(4, 2), 4);
        due("arrived(0)", choice.arrived(0), 7);
        due("adjoint(0)", choice.adjoint(0), 1);
        choice.point(0, 65520);
        // From 65520: x + 1 is 0 there, then 2 x is 0 for ever.
        due("march(4, 2)", choice.march(4, 2), 4);
        due("arrived(0)", choice.arrived(0), 0);
        due("adjoint(0)", choice.adjoint(0), 8);
    }
}
