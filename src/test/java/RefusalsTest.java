import java.util.ArrayList;
import java.util.Arrays;
import java.util.List;

/**
 * "Refused calls change nothing, and refusals come before all else.", and rule 7 of the language:
 * every call with arguments from far and near, on tapes in many states. What a tape answers to all
 * questions together must be the same after any number of refused calls and of questions.
 */
public final class RefusalsTest extends Sentences {
    private static final int[] NEAR = {
        LEAST_INT, LEAST_INT + 1, -65521, -32, -2, -1, 0, 1, 2, 3, 4, 5, 6, 7, 8, 9, 10, 11,
        19, 20, 21, 22, 23, 24, 25, 31, 32, 64, 65520, 65521, GREATEST_INT - 1, GREATEST_INT
    };
    /** For the calls of three arguments. */
    private static final int[] FEW = {LEAST_INT, -1, 0, 1, 2, 4, 5, 6, 7, 9, 10, 23, 24, GREATEST_INT};
    /** With the calls that make a tape and those that ask it for everything this stays below 512. */
    private static final int CALLS_BETWEEN = 120;
    private static final int STATES = 13;
    private static final String[] MAKERS = {"input", "constant", "operation", "output", "point", "direction", "weight", "march"};
    private static final String[] QUESTIONS = {
        "value", "forward", "reverse", "taylor", "second", "depends", "colour", "colours", "entry", "size", "arrived", "adjoint"
    };

    /** One call, with as many of the arguments as its method takes. */
    private record Call(String name, int a, int b, int c) {
    }

    public static void main(String[] args) {
        for (int state = 0; state < STATES; state++) {
            List<Call> harmless = refusedMakers(state);
            for (String name : QUESTIONS) {
                for (Call call : callsOf(name)) harmless.add(call);
            }
            changeNothing(state, harmless);
        }
        everyReasonBeforeAllElse();
        Check.finish();
    }

    /** Of the calls that make or set something, those that the reference refuses in this state. */
    private static List<Call> refusedMakers(int state) {
        List<Call> refused = new ArrayList<>();
        Reference reference = referenceIn(state);
        for (String name : MAKERS) {
            for (Call call : callsOf(name)) {
                int answer = ask(reference, call);
                if (answer == REFUSED) {
                    refused.add(call);
                } else {
                    reference = referenceIn(state);
                }
            }
        }
        return refused;
    }

    private static void changeNothing(int state, List<Call> calls) {
        sentence("Refused calls change nothing");
        String before = everything(tapeIn(state));
        Reference reference = referenceIn(state);
        for (int from = 0; from < calls.size(); from += CALLS_BETWEEN) {
            DerivativeTape x = tapeIn(state);
            List<Call> some = calls.subList(from, Math.min(calls.size(), from + CALLS_BETWEEN));
            for (Call call : some) due("state " + state + ", " + call, ask(x, call), ask(reference, call));
            boolean same = everything(x).equals(before);
            due("state " + state + ", everything after " + some.get(0) + " and those that follow", same, true);
        }
    }

    private static List<Call> callsOf(String name) {
        List<Call> calls = new ArrayList<>();
        switch (name) {
            case "input", "colours", "size" -> calls.add(new Call(name, 0, 0, 0));
            case "operation", "second" -> {
                for (int a : FEW) {
                    for (int b : FEW) {
                        for (int c : FEW) calls.add(new Call(name, a, b, c));
                    }
                }
            }
            case "point", "direction", "weight", "taylor", "depends", "entry", "march" -> {
                for (int a : NEAR) {
                    for (int b : NEAR) calls.add(new Call(name, a, b, 0));
                }
            }
            default -> {
                for (int a : NEAR) calls.add(new Call(name, a, 0, 0));
            }
        }
        return calls;
    }

    /** For a call that sets something or asks whether, false counts as a refusal and true as 1. */
    private static int told(boolean answer) {
        return answer ? 1 : REFUSED;
    }

    private static int ask(DerivativeTape x, Call it) {
        return switch (it.name) {
            case "input" -> x.input();
            case "constant" -> x.constant(it.a);
            case "operation" -> x.operation(it.a, it.b, it.c);
            case "output" -> x.output(it.a);
            case "point" -> told(x.point(it.a, it.b));
            case "direction" -> told(x.direction(it.a, it.b));
            case "weight" -> told(x.weight(it.a, it.b));
            case "value" -> x.value(it.a);
            case "forward" -> x.forward(it.a);
            case "reverse" -> x.reverse(it.a);
            case "taylor" -> x.taylor(it.a, it.b);
            case "second" -> x.second(it.a, it.b, it.c);
            case "depends" -> told(x.depends(it.a, it.b));
            case "colour" -> x.colour(it.a);
            case "colours" -> x.colours();
            case "entry" -> x.entry(it.a, it.b);
            case "size" -> x.size();
            case "march" -> x.march(it.a, it.b);
            case "arrived" -> x.arrived(it.a);
            default -> x.adjoint(it.a);
        };
    }

    private static int ask(Reference x, Call it) {
        return switch (it.name) {
            case "input" -> x.input();
            case "constant" -> x.constant(it.a);
            case "operation" -> x.operation(it.a, it.b, it.c);
            case "output" -> x.output(it.a);
            case "point" -> told(x.point(it.a, it.b));
            case "direction" -> told(x.direction(it.a, it.b));
            case "weight" -> told(x.weight(it.a, it.b));
            case "value" -> x.value(it.a);
            case "forward" -> x.forward(it.a);
            case "reverse" -> x.reverse(it.a);
            case "taylor" -> x.taylor(it.a, it.b);
            case "second" -> x.second(it.a, it.b, it.c);
            case "depends" -> told(x.depends(it.a, it.b));
            case "colour" -> x.colour(it.a);
            case "colours" -> x.colours();
            case "entry" -> x.entry(it.a, it.b);
            case "size" -> x.size();
            case "march" -> x.march(it.a, it.b);
            case "arrived" -> x.arrived(it.a);
            default -> x.adjoint(it.a);
        };
    }

    private static DerivativeTape tapeIn(int state) {
        DerivativeTape x = new DerivativeTape();
        for (Call call : makingOf(state)) ask(x, call);
        return x;
    }

    private static Reference referenceIn(int state) {
        Reference x = new Reference();
        for (Call call : makingOf(state)) ask(x, call);
        return x;
    }

    private static void make(List<Call> calls, String name, int... arguments) {
        int[] three = Arrays.copyOf(arguments, 3);
        calls.add(new Call(name, three[0], three[1], three[2]));
    }

    private static void makeMany(List<Call> calls, int times, String name, int... arguments) {
        for (int m = 0; m < times; m++) make(calls, name, arguments);
    }

    /** The calls that bring a new object into the state of this number. */
    private static List<Call> makingOf(int state) {
        List<Call> calls = new ArrayList<>();
        switch (state) {
            case 0 -> { }
            case 1 -> make(calls, "constant", -7);
            case 2 -> makeMany(calls, 24, "constant", 3);
            case 3 -> makeMany(calls, 5, "input");
            case 4 -> makeProductAndSum(calls, 2, 3);
            case 5 -> {
                makeProductAndSum(calls, 2, 3);
                make(calls, "march", 3, 2);
            }
            case 6 -> {
                makeProductAndSum(calls, 2, 3);
                make(calls, "march", 2, 2);
                make(calls, "input");
            }
            case 7 -> {
                makeProductAndSum(calls, 2, 3);
                make(calls, "march", 2, 2);
                make(calls, "output", 0);
            }
            case 8 -> makeUndefinedAndRough(calls);
            case 9 -> {
                makeUndefinedAndRough(calls);
                make(calls, "weight", 0, 1);
            }
            case 10 -> {
                make(calls, "constant", 4);
                makeMany(calls, 5, "output", 0);
            }
            case 11 -> makeFull(calls, 5);
            default -> makeFull(calls, 3);
        }
        return calls;
    }

    private static void makeProductAndSum(List<Call> calls, int x0, int y0) {
        makeMany(calls, 2, "input");
        make(calls, "operation", MUL, 0, 1);
        make(calls, "operation", ADD, 0, 1);
        make(calls, "output", 2);
        make(calls, "output", 3);
        make(calls, "point", 0, x0);
        make(calls, "point", 1, y0);
        make(calls, "direction", 0, 5);
        make(calls, "direction", 1, -6);
        make(calls, "weight", 0, 7);
        make(calls, "weight", 1, -8);
    }

    /** Marched while all was smooth; then output 0 becomes undefined and output 1 rough. */
    private static void makeUndefinedAndRough(List<Call> calls) {
        makeMany(calls, 2, "input");
        make(calls, "constant", 7);
        make(calls, "operation", DIV, 2, 0);
        make(calls, "operation", MIN, 1, 2);
        make(calls, "output", 3);
        make(calls, "output", 4);
        make(calls, "point", 0, 1);
        make(calls, "point", 1, 1);
        make(calls, "weight", 1, 5);
        make(calls, "direction", 1, 5);
        make(calls, "march", 1, 1);
        make(calls, "point", 0, 0);
        make(calls, "point", 1, 7);
    }

    /** 24 nodes and five outputs, marched if there are five inputs too. */
    private static void makeFull(List<Call> calls, int inputs) {
        for (int j = 0; j < inputs; j++) {
            make(calls, "input");
            make(calls, "point", j, j * j + 3);
            make(calls, "direction", j, j - 2);
        }
        for (int node = inputs; node < 24; node++) {
            make(calls, "operation", node % 7, node - 1 - node % 3 % inputs, node % 7 == POWER ? 3 : node - inputs);
        }
        for (int i = 0; i < 5; i++) {
            make(calls, "output", 23 - i);
            make(calls, "weight", i, i + 1);
        }
        make(calls, "march", 4, 2);
    }

    /** What the tape answers to every question there is, and then to the calls that make something. */
    private static String everything(DerivativeTape x) {
        StringBuilder all = new StringBuilder();
        for (int j = 0; j < 5; j++) all.append(x.arrived(j)).append(' ').append(x.adjoint(j)).append(' ');
        for (int node = 0; node < 24; node++) all.append(x.value(node)).append(' ');
        for (int i = 0; i < 5; i++) {
            all.append('|').append(x.forward(i)).append(' ').append(x.reverse(i)).append(' ').append(x.colour(i)).append(' ');
            for (int k = 0; k <= 8; k++) all.append(x.taylor(i, k)).append(' ');
            for (int j = 0; j < 5; j++) {
                all.append(x.depends(i, j)).append(' ').append(x.entry(i, j)).append(' ');
                for (int k = j; k < 5; k++) all.append(x.second(i, j, k)).append(' ');
            }
        }
        all.append(x.colours()).append(' ').append(x.size()).append(' ').append(x.march(3, 2)).append('|');
        for (int j = 0; j < 5; j++) all.append(x.arrived(j)).append(' ').append(x.adjoint(j)).append(' ');
        all.append(x.operation(ADD, 0, 0)).append(' ').append(x.constant(1)).append(' ');
        appendNewInputs(x, all);
        return all.append(x.size()).toString();
    }

    /** A refused call may have set something for an input or an output that is not there yet. */
    private static void appendNewInputs(DerivativeTape x, StringBuilder all) {
        for (int turn = 0; turn < 5; turn++) {
            int node = x.input();
            int i = x.output(node);
            all.append(node).append(' ').append(x.value(node)).append(' ').append(i).append(' ').append(x.forward(i)).append(' ');
        }
        for (int j = 0; j < 5; j++) all.append(x.reverse(j)).append(' ');
    }

    private static void everyReasonBeforeAllElse() {
        sentence("refusals come before all else.");
        DerivativeTape x = undefinedRoughSmooth();
        x.weight(0, 1);
        x.weight(1, 1);
        for (int i = 0; i < 2; i++) {
            due("taylor(" + i + ", 9)", x.taylor(i, 9), REFUSED);
            due("taylor(" + i + ", -1)", x.taylor(i, -1), REFUSED);
            due("second(" + i + ", 3, 0)", x.second(i, 3, 0), REFUSED);
            due("second(" + i + ", 0, 3)", x.second(i, 0, 3), REFUSED);
            due("entry(" + i + ", 3)", x.entry(i, 3), REFUSED);
        }
        due("reverse(3)", x.reverse(3), REFUSED);
        due("reverse(-1)", x.reverse(-1), REFUSED);
        due("march(0, 1)", x.march(0, 1), REFUSED);
        due("march(21, 1)", x.march(21, 1), REFUSED);
        due("march(1, 0)", x.march(1, 0), REFUSED);
        due("march(1, 6)", x.march(1, 6), REFUSED);
        due("march(1, 1)", x.march(1, 1), UNDEFINED);
        x.input();
        due("march(1, 1), an input too many", x.march(1, 1), REFUSED);
        due("two reasons at once", x.taylor(9, 9), REFUSED);
        due("two reasons at once", x.operation(7, 99, -1), REFUSED);
    }
}
