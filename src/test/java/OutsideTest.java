import java.util.Random;

/**
 * To the outside the circuit goes on doing what it did: after moves forward alone exactly that, and after
 * moves backward too, but that a value which was unknown may be known then.
 */
public final class OutsideTest {
    private static final int TICKS = 40;

    public static void main(String[] args) {
        Due due = new Due("OutsideTest");
        int compared = 0;
        for (int seed = 0; seed < 4000 && !due.hasWrong(); seed++) {
            compared += compare(due, seed) ? 1 : 0;
        }
        due.isTrue("enough circuits were moved", compared > 1000);
        due.end();
    }

    private static boolean compare(Due due, int seed) {
        Random lot = new Random(seed);
        MovedRegisters circuit = build(lot);
        if (!circuit.sound()) {
            return false;
        }
        int[] before = run(circuit, seed);
        int best = circuit.least();
        int period = circuit.period();
        int c = Math.min(600, lot.nextBoolean() ? best : best + lot.nextInt(30));
        int answer = circuit.retime(c);
        boolean faster = circuit.period() <= (answer == 0 ? period : c);
        due.isTrue("seed " + seed + ": the period is kept to", faster);
        boolean forward = isForward(circuit);
        int[] after = run(circuit, seed);
        for (int t = 0; t < TICKS; t++) {
            boolean goesOn = before[t] == after[t] || !forward && onlyMoreKnown(before[t], after[t]);
            due.isTrue("seed " + seed + ", tick " + t + ": " + before[t] + " before, " + after[t] + " after", goesOn);
        }
        return answer > 0;
    }

    private static MovedRegisters build(Random lot) {
        MovedRegisters circuit = new MovedRegisters();
        int gates = 1 + lot.nextInt(12);
        for (int g = 1; g <= gates; g++) {
            int kind = lot.nextInt(5);
            circuit.gate(kind, lot.nextInt(20));
        }
        for (int g = 1; g <= gates; g++) {
            wireTry(circuit, lot, gates, g, 0);
            wireTry(circuit, lot, gates, g, 1);
        }
        for (int output = -1; output >= -3; output--) {
            int source = gates + 1 + output;
            if (source > 0) {
                circuit.wire(source, output, 0, lot.nextInt(4));
                holdAll(circuit, lot, output, 0);
            }
        }
        return circuit;
    }

    private static void wireTry(MovedRegisters circuit, Random lot, int gates, int sink, int pin) {
        int source = pin == 0 && sink > 1 ? sink - 1 : lot.nextInt(gates + 3) - 3;
        source = source == 0 ? gates : source;
        int registers = lot.nextInt(3) + (source >= sink ? 1 : 0);
        try {
            circuit.wire(source, sink, pin, registers);
        } catch (IllegalArgumentException e) {
            return;
        }
        holdAll(circuit, lot, sink, pin);
    }

    private static void holdAll(MovedRegisters circuit, Random lot, int sink, int pin) {
        for (int register = 0; register < circuit.registers(sink, pin); register++) {
            circuit.hold(sink, pin, register, lot.nextInt(5) == 0 ? 2 : lot.nextInt(2));
        }
    }

    private static int[] run(MovedRegisters circuit, int seed) {
        Random lot = new Random(seed + 1000000L);
        circuit.restart();
        int[] answers = new int[TICKS];
        for (int t = 0; t < TICKS; t++) {
            answers[t] = circuit.tick(lot.nextInt(2), lot.nextInt(2), lot.nextInt(8) == 0 ? 2 : lot.nextInt(2));
        }
        return answers;
    }

    private static boolean isForward(MovedRegisters circuit) {
        for (int g = 1; g <= circuit.gates(); g++) {
            if (circuit.label(g) > 0) {
                return false;
            }
        }
        return true;
    }

    private static boolean onlyMoreKnown(int before, int after) {
        for (int shift = 0; shift < 6; shift += 2) {
            int was = before >> shift & 3;
            if (was != 2 && was != (after >> shift & 3)) {
                return false;
            }
        }
        return true;
    }
}
