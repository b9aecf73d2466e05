import java.util.Arrays;

/**
 * Wires with 20 registers, and with more between two moves: "no wire has .. more than 20 then" is said of where
 * the moves lead to, not of the way. Which wire is crowded when depends on the order of the moves, and so perhaps
 * on the gates' numbers: every circuit is built with several numberings, and must come out the same.
 */
public final class CrowdedTest extends Bench {
    private static final int[] LONG = {0, 1, 1, 0, 2, 1, 0, 0, 1, 2, 1, 1, 0, 1, 0, 0, 2, 1, 1, 0};
    private static final int FRONT = 0;
    private static final int MIDDLE = 1;

    private CrowdedTest() {
        super("CrowdedTest");
    }

    public static void main(String[] args) {
        CrowdedTest test = new CrowdedTest();
        for (int turn = 0; turn < 9; turn++) {
            test.sixComeBeforeSixGo(numbers(9, turn, false));
            test.sixComeBeforeSixGo(numbers(9, turn, true));
        }
        for (int turn = 0; turn < 12; turn++) {
            test.sixComeBehindBeforeSixGo(numbers(12, turn, false));
            test.sixComeBehindBeforeSixGo(numbers(12, turn, true));
        }
        test.valuesThatDiffer();
        test.runOverTwenty();
        test.due.end();
    }

    /** The numbers 1 .. count for the gates of a circuit, begun at another one, upward or downward. */
    private static int[] numbers(int count, int turn, boolean downward) {
        int[] numbers = new int[count];
        for (int at = 0; at < count; at++) {
            int place = (at + turn) % count;
            numbers[at] = downward ? count - place : place + 1;
        }
        return numbers;
    }

    /** Backward: six new ones come to 20 at the sink, while those at the source must wait for a row of six gates. */
    private void sixComeBeforeSixGo(int[] g) {
        String told = "backward, numbers " + Arrays.toString(g);
        MovedRegisters x = backward(g);
        int end = g[8];
        asks(told, 2, x, "retime", 600);
        for (int at = 0; at < 9; at++) {
            asks(told, at == 8 ? 0 : 6, x, "label", g[at]);
        }
        due.same(told + ": six came, six went", "0 1 1 0 1 2 0 1 1 0 2 1 0 0 1 2 1 1 0 1", () -> all(x, g[MIDDLE], 0));
        due.same(told + ": all that two wires told of them", "0 0 1 1 1 0", () -> all(x, g[FRONT], 0));
        due.same(told + ": the rest", "1 1", () -> all(x, end, 0));
        due.same(told + ": the rest", "1 0", () -> all(x, end, 1));
        for (int at = 2; at < 8; at++) {
            asks(told + ": none is left between", 0, x, "registers", g[at], 0);
        }
        asks(told + ": input -1, middle, end, with 6, 20 and 2", 28 + 2, x, "shared");
    }

    /**
     * From the front gate straight to the middle one (20 registers), and over a row of six; both lead to the end
     * gate over 8 registers each.
     */
    private static MovedRegisters backward(int[] g) {
        MovedRegisters x = twentyToTheMiddle(g);
        int end = g[8];
        // What has no register to an output can't be moved over backward.
        x.wire(g[MIDDLE], -2, 0, 0);
        x.wire(g[7], -3, 0, 0);
        for (int round = 0; round < 2; round++) {
            x.wire(end, -1, 0, 4);
            x.retime(600);
        }
        x.wire(-1, -2, 0, 0);
        x.wire(-1, -3, 0, 0);
        holdAll(x, g[MIDDLE], 0, LONG);
        holdAll(x, end, 1, 1, 0, 0, 1, 1, 0, 1, 2);
        holdAll(x, end, 0, 1, 1, 2, 0, 1, 2, 1, 0);
        return x;
    }

    /** The same gates, with 20 registers in front of the middle one and no others. */
    private static MovedRegisters twentyToTheMiddle(int[] g) {
        MovedRegisters x = new MovedRegisters();
        int end = g[8];
        for (int number = 1; number <= 9; number++) {
            x.gate(number == end ? AND : SAME, 1);
        }
        x.wire(-1, g[FRONT], 0, 0);
        x.wire(g[FRONT], g[MIDDLE], 0, 0);
        x.wire(g[FRONT], g[2], 0, 0);
        for (int at = 3; at < 8; at++) {
            x.wire(g[at - 1], g[at], 0, 0);
        }
        x.wire(g[7], end, 0, 0);
        x.wire(end, -1, 0, 0);
        for (int round = 0; round < 5; round++) {
            x.wire(g[MIDDLE], end, 1, 4);
            x.retime(600);
        }
        return x;
    }

    /** Forward: six come to 20 at the source, while those at the sink must wait for a row of four gates. */
    private void sixComeBehindBeforeSixGo(int[] g) {
        String told = "forward, numbers " + Arrays.toString(g);
        MovedRegisters x = forward(g);
        int[] labels = {-6, -6, -5, -4, -3, -2, -1, 0, -6, -6, -6, -6};
        asks(told, 2, x, "retime", 5);
        for (int at = 0; at < 12; at++) {
            asks(told, labels[at], x, "label", g[at]);
        }
        due.same(told + ": six came, six went", "0 0 1 2 1 1 0 1 0 0 2 1 1 0 1 0 2 0 1 1", () -> all(x, g[MIDDLE], 0));
        due.same(told + ": with those of the other pin", "0 0 1 1 2 2", () -> all(x, -2, 0));
        due.same(told + ": the rest", "0 1", () -> all(x, g[FRONT], 0));
        due.same(told + ": the rest", "1 1", () -> all(x, g[8], 0));
        String[] apart = {"1", "1", "0", "2", "0", "1"};
        for (int at = 2; at < 8; at++) {
            int sink = g[at];
            due.same(told + ": one before each", apart[at - 2], () -> all(x, sink, 0));
        }
        for (int at = 9; at < 12; at++) {
            asks(told + ": none is left between", 0, x, "registers", g[at], 0);
        }
        asks(told + ": none is left between", 0, x, "registers", g[MIDDLE], 1);
    }

    /**
     * From the front gate straight to pin 0 of the middle one (20 registers), and over a row of six slow gates to
     * output -1; to pin 1 of the middle one over a row of four. In front of all are 8 registers.
     */
    private static MovedRegisters forward(int[] g) {
        MovedRegisters x = new MovedRegisters();
        int[] slow = new int[13];
        for (int at = 0; at < 8; at++) {
            slow[g[at]] = at == MIDDLE ? 0 : 5;
        }
        for (int number = 1; number <= 12; number++) {
            x.gate(number == g[MIDDLE] ? ODD : SAME, slow[number]);
        }
        for (int at = 3; at < 8; at++) {
            x.wire(g[at - 1], g[at], 0, 0);
        }
        for (int at = 9; at < 12; at++) {
            x.wire(g[at - 1], g[at], 0, 0);
        }
        x.wire(-1, g[FRONT], 0, 0);
        x.wire(-3, g[8], 0, 0);
        x.wire(-3, g[MIDDLE], 1, 0);
        x.wire(g[7], -1, 0, 0);
        x.wire(g[MIDDLE], -2, 0, 0);
        x.wire(g[11], -3, 0, 0);
        heapInFront(x, g);
        for (int round = 0; round < 5; round++) {
            x.wire(g[MIDDLE], -2, 0, 4);
            x.retime(600);
        }
        x.wire(g[11], g[MIDDLE], 1, 0);
        x.wire(-2, -3, 0, 0);
        holdAll(x, g[FRONT], 0, 1, 0, 2, 0, 1, 1, 0, 1);
        holdAll(x, g[8], 0, 0, 1, 0, 1, 1, 2, 1, 1);
        holdAll(x, g[MIDDLE], 0, LONG);
        return x;
    }

    private static void heapInFront(MovedRegisters x, int[] g) {
        for (int round = 0; round < 2; round++) {
            x.wire(g[FRONT], g[MIDDLE], 0, 4);
            x.wire(g[FRONT], g[2], 0, 4);
            x.wire(g[8], g[9], 0, 4);
            x.retime(600);
        }
    }

    /** A CONFLICT at the last of the moves over the front gate: all stays, with 20 and no more. */
    private void valuesThatDiffer() {
        int[] g = numbers(9, 0, false);
        MovedRegisters x = backward(g);
        x.hold(g[8], 0, 2, 1);
        asks("14: 0 on the one wire, 1 on the other", 1, x, "retime", 600);
        due.same("15: no label above 0", "0 0 0 0 0 0 0 0 0", () -> labels(x));
        due.same("5: as it was", "0 1 1 0 2 1 0 0 1 2 1 1 0 1 0 0 2 1 1 0", () -> all(x, g[MIDDLE], 0));
        due.same("5: as it was", "1 1 1 0 1 2 1 0", () -> all(x, g[8], 0));
        asks("6: as it was", 0, x, "registers", g[FRONT], 0);
    }

    /** The RUN over 20 registers: each value comes out in its turn, then what came in at the first tick. */
    private void runOverTwenty() {
        int[] g = numbers(9, 0, false);
        MovedRegisters x = twentyToTheMiddle(g);
        x.wire(g[MIDDLE], -2, 0, 0);
        holdAll(x, g[MIDDLE], 0, LONG);
        for (int again = 0; again < 2; again++) {
            for (int t = 0; t < 45; t++) {
                int want = t < 20 ? LONG[t] : (t - 20) % 3;
                int a = t % 3;
                due.same("16: tick " + t, want, () -> x.tick(a, 0, 0) >> 2 & 3);
            }
            x.restart();
        }
        due.same("5: as they were", "0 1 1 0 2 1 0 0 1 2 1 1 0 1 0 0 2 1 1 0", () -> all(x, g[MIDDLE], 0));
    }
}
