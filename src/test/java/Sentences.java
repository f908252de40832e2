/** What the tests of the document's single sentences share; the answers tell the sentence in hand. */
abstract class Sentences {
    static final int UNDEFINED = -1;
    static final int ROUGH = -2;
    static final int REFUSED = -3;

    static final int ADD = 0;
    static final int SUB = 1;
    static final int MUL = 2;
    static final int DIV = 3;
    static final int MIN = 4;
    static final int MAX = 5;
    static final int POWER = 6;

    static final int LEAST_INT = Integer.MIN_VALUE;
    static final int GREATEST_INT = Integer.MAX_VALUE;

    private static String inHand = "";

    static void sentence(String words) {
        inHand = words;
    }

    static void due(String call, long got, long want) {
        Check.due("\"" + inHand + "\": " + call, got, want);
    }

    static void due(String call, boolean got, boolean want) {
        Check.due("\"" + inHand + "\": " + call, got, want);
    }

    /** A tape with an input for each number given, at the point of these numbers. */
    static DerivativeTape withInputs(int... point) {
        DerivativeTape x = new DerivativeTape();
        for (int j = 0; j < point.length; j++) {
            x.input();
            x.point(j, point[j]);
        }
        return x;
    }

    /** A tape that has nothing but as many constants as are asked for. */
    static DerivativeTape withConstants(int count) {
        DerivativeTape x = new DerivativeTape();
        for (int node = 0; node < count; node++) x.constant(node);
        return x;
    }

    /** Two inputs at the numbers given; output 0 is node 2, x * y, and output 1 is node 3, x + y. */
    static DerivativeTape productAndSum(int x0, int y0) {
        DerivativeTape x = withInputs(x0, y0);
        x.operation(MUL, 0, 1);
        x.operation(ADD, 0, 1);
        x.output(2);
        x.output(3);
        return x;
    }

    /**
     * Inputs 0 and 1 are 7, input 2 is 0. Output 0 is node 3, input 0 / input 2, undefined; output 1
     * is node 4, MIN of inputs 0 and 1, rough; output 2 is node 0, and smooth.
     */
    static DerivativeTape undefinedRoughSmooth() {
        DerivativeTape x = withInputs(7, 7, 0);
        x.operation(DIV, 0, 2);
        x.operation(MIN, 0, 1);
        x.output(3);
        x.output(4);
        x.output(0);
        return x;
    }
}
