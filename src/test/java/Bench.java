import java.util.Arrays;

/** What the tests have in common: names, small circuits, and ways to make calls and to look at a circuit. */
abstract class Bench {
    static final int SAME = 0;
    static final int NOT = 1;
    static final int AND = 2;
    static final int OR = 3;
    static final int ODD = 4;

    static final String NO_ELEMENT = "throws.NoSuchElementException";
    static final String BAD_ARGUMENT = "throws.IllegalArgumentException";
    static final String BAD_STATE = "throws.IllegalStateException";
    static final String FULL = "throws.UnsupportedOperationException";
    static final String DONE = "done";

    /** Makes a circuit anew, always the same one. */
    interface Maker {
        MovedRegisters make();
    }

    final Due due;

    Bench(String test) {
        due = new Due(test);
    }

    /** A call by its name, and the answer that is due. */
    final void asks(String what, Object want, MovedRegisters x, String name, int... at) {
        due.same(what + ": " + name + Arrays.toString(at), want, () -> call(x, name, at));
    }

    static Object call(MovedRegisters x, String name, int... at) {
        switch (name) {
            case "gate": return x.gate(at[0], at[1]);
            case "wire": return wire(x, at[0], at[1], at[2], at[3]);
            case "hold": return hold(x, at[0], at[1], at[2], at[3]);
            case "held": return x.held(at[0], at[1], at[2]);
            case "registers": return x.registers(at[0], at[1]);
            case "gates": return x.gates();
            case "sound": return x.sound();
            case "period": return x.period();
            case "weight": return x.weight(at[0], at[1]);
            case "delay": return x.delay(at[0], at[1]);
            case "least": return x.least();
            case "shared": return x.shared();
            case "retime": return x.retime(at[0]);
            case "label": return x.label(at[0]);
            case "tick": return x.tick(at[0], at[1], at[2]);
            case "restart": return restart(x);
            default: throw new AssertionError(name);
        }
    }

    static Object wire(MovedRegisters x, int source, int sink, int pin, int registers) {
        x.wire(source, sink, pin, registers);
        return DONE;
    }

    static Object hold(MovedRegisters x, int sink, int pin, int register, int value) {
        x.hold(sink, pin, register, value);
        return DONE;
    }

    static Object restart(MovedRegisters x) {
        x.restart();
        return DONE;
    }

    /** The values of a wire's registers, from the sink on. */
    static String all(MovedRegisters x, int sink, int pin) {
        StringBuilder text = new StringBuilder();
        int registers = x.registers(sink, pin);
        for (int register = 0; register < registers; register++) {
            text.append(register == 0 ? "" : " ").append(x.held(sink, pin, register));
        }
        return text.toString();
    }

    static void holdAll(MovedRegisters x, int sink, int pin, int... values) {
        for (int register = 0; register < values.length; register++) {
            x.hold(sink, pin, register, values[register]);
        }
    }

    static String labels(MovedRegisters x) {
        StringBuilder text = new StringBuilder();
        int gates = x.gates();
        for (int number = 1; number <= gates; number++) {
            text.append(number == 1 ? "" : " ").append(x.label(number));
        }
        return text.toString();
    }

    /** How many registers stand in front of each gate of a chain, and at output -1. */
    static String lengths(MovedRegisters x) {
        StringBuilder text = new StringBuilder();
        int gates = x.gates();
        for (int number = 1; number <= gates; number++) {
            text.append(x.registers(number, 0)).append(' ');
        }
        return text.append(x.registers(-1, 0)).toString();
    }

    /**
     * What a circuit answers to the calls that change nothing, with some 100 of them for 12 gates: an object is
     * used for 512 calls alone.
     */
    static String shows(MovedRegisters x) {
        StringBuilder text = new StringBuilder();
        for (String name : new String[] {"gates", "sound", "period", "least", "shared"}) {
            text.append(name).append(' ').append(Due.outcome(() -> call(x, name))).append('\n');
        }
        int gates = x.gates();
        for (int sink = -3; sink <= gates; sink++) {
            text.append(sink).append(' ').append(wiresTo(x, sink)).append('\n');
        }
        for (int from = 1; from <= gates; from++) {
            text.append(toTheNext(x, from, from % gates + 1)).append(' ');
        }
        return text.append('\n').append(labels(x)).toString();
    }

    private static String wiresTo(MovedRegisters x, int sink) {
        return Due.outcome(() -> "(" + all(x, sink, 0) + ")") + " " + Due.outcome(() -> "(" + all(x, sink, 1) + ")");
    }

    private static String toTheNext(MovedRegisters x, int from, int to) {
        return Due.outcome(() -> x.weight(from, to)) + "/" + Due.outcome(() -> x.delay(from, to));
    }

    static String ticks(MovedRegisters x, int count) {
        StringBuilder text = new StringBuilder();
        for (int t = 0; t < count; t++) {
            int a = t % 2;
            int b = t % 3;
            text.append(Due.outcome(() -> x.tick(a, b, 1))).append(' ');
        }
        return text.toString();
    }

    /** From input -1 over SAME gates of these delays to output -1, without registers. */
    static MovedRegisters chain(int... delays) {
        MovedRegisters x = new MovedRegisters();
        for (int delay : delays) {
            int number = x.gate(SAME, delay);
            x.wire(number == 1 ? -1 : number - 1, number, 0, 0);
            x.wire(number, -1, 0, 0);
        }
        return x;
    }

    /** A chain of gates that all have the same delay. */
    static MovedRegisters evenChain(int gates, int delay) {
        int[] delays = new int[gates];
        Arrays.fill(delays, delay);
        return chain(delays);
    }

    /** Twelve gates NOT in a ring, with registers in one place alone. */
    static MovedRegisters ring(int registers) {
        MovedRegisters x = new MovedRegisters();
        for (int number = 1; number <= 12; number++) {
            x.gate(NOT, number);
        }
        for (int number = 1; number <= 12; number++) {
            x.wire(number, number % 12 + 1, 0, number == 7 ? registers : 0);
        }
        return x;
    }

    /** One gate of delay 1 from inputs -1 and -2 to output -1. */
    static MovedRegisters oneGate(int kind, int before, int behind) {
        MovedRegisters x = new MovedRegisters();
        x.gate(kind, 1);
        x.wire(-1, 1, 0, before);
        if (kind >= AND) {
            x.wire(-2, 1, 1, before);
        }
        x.wire(1, -1, 0, behind);
        return x;
    }

    /** Gates of one kind, each behind the one before it, with a register on every wire; all outputs behind the last. */
    static MovedRegisters row(int gates, int kind) {
        MovedRegisters x = new MovedRegisters();
        int last = -1;
        for (int made = 0; made < gates; made++) {
            int number = x.gate(kind, 1);
            x.wire(last, number, 0, 1);
            if (kind >= AND) {
                x.wire(-2, number, 1, 1);
            }
            last = number;
        }
        for (int output = -3; output <= -1; output++) {
            x.wire(last, output, 0, 1);
        }
        return x;
    }
}
