/** For every argument of every call: the last value that is allowed and the first that is not, at both ends. */
public final class BoundsTest extends Bench {
    private static final String ALLOWED = "allowed";

    private BoundsTest() {
        super("BoundsTest");
    }

    public static void main(String[] args) {
        BoundsTest test = new BoundsTest();
        test.kindsAndDelays();
        test.twelveGates();
        test.endsOfWires();
        test.pinsOfWires();
        test.registersOfWires();
        test.sinksThatHold();
        test.pinsThatHold();
        test.registersThatHold();
        test.registersOfALongWire();
        test.valuesThatAreHeld();
        test.gatesThatPathsJoin();
        test.periodsToRetimeFor();
        test.gatesWithLabels();
        test.valuesOfInputs();
        test.extremesAreKept();
        test.due.end();
    }

    /** Promise 2: "IllegalArgumentException when kind is not 0 .. 4 or delay not 0 .. 50". */
    private void kindsAndDelays() {
        for (int gates : new int[] {0, 11}) {
            Maker maker = () -> row(gates, SAME);
            range("2: kind", 0, 4, BAD_ARGUMENT, maker, "gate", 0, 0, 0);
            range("2: kind", 0, 4, BAD_ARGUMENT, maker, "gate", 0, 0, 50);
            range("2: delay", 0, 50, BAD_ARGUMENT, maker, "gate", 1, 0, 0);
            range("2: delay", 0, 50, BAD_ARGUMENT, maker, "gate", 1, 4, 0);
        }
    }

    /** Promise 2: "UnsupportedOperationException when there are 12". */
    private void twelveGates() {
        MovedRegisters x = row(11, SAME);
        asks("2: eleven", 11, x, "gates");
        asks("2: the twelfth is made", 12, x, "gate", 0, 0);
        asks("2: the thirteenth is not", FULL, x, "gate", 0, 0);
        asks("2: nor of the last kind and delay", FULL, x, "gate", 4, 50);
        asks("2: twelve are left", 12, x, "gates");
    }

    /** Promise 3: "NoSuchElementException when source or sink is none", with no gate, one, and twelve. */
    private void endsOfWires() {
        for (int gates : new int[] {0, 1, 12}) {
            Maker maker = () -> row(gates, SAME);
            ends("3: source", gates, maker, "wire", 0, 0, -1, 0, 0);
            ends("3: sink", gates, maker, "wire", 1, -1, 0, 0, 0);
        }
    }

    /** Promise 3: "IllegalArgumentException when the sink has no such pin (outputs: pin 0 alone)". */
    private void pinsOfWires() {
        for (int kind = SAME; kind <= ODD; kind++) {
            int of = kind;
            for (int number : new int[] {1, 12}) {
                range("3: pin of a gate", 0, lastPin(kind), BAD_ARGUMENT, () -> row(12, of), "wire", 2, -1, number, 0, 0);
            }
        }
        for (int output = -3; output <= -1; output++) {
            range("3: pin of an output", 0, 0, BAD_ARGUMENT, MovedRegisters::new, "wire", 2, -1, output, 0, 0);
        }
    }

    /** Promise 3: "or registers is not 0 .. 4". */
    private void registersOfWires() {
        Maker maker = () -> row(1, AND);
        range("3: registers before pin 0", 0, 4, BAD_ARGUMENT, maker, "wire", 3, -1, 1, 0, 0);
        range("3: registers before pin 1", 0, 4, BAD_ARGUMENT, maker, "wire", 3, -1, 1, 1, 0);
        range("3: registers from a gate to itself", 0, 4, BAD_ARGUMENT, maker, "wire", 3, 1, 1, 0, 0);
        range("3: registers before an output", 0, 4, BAD_ARGUMENT, maker, "wire", 3, 1, -3, 0, 0);
    }

    /** Promises 4, 5 and 6: "NoSuchElementException when there is no such wire", by its sink. */
    private void sinksThatHold() {
        for (int gates : new int[] {0, 1, 12}) {
            Maker maker = () -> row(gates, SAME);
            ends("4: sink", gates, maker, "hold", 0, 0, 0, 0, 0);
            ends("5: sink", gates, maker, "held", 0, 0, 0, 0);
            ends("6: sink", gates, maker, "registers", 0, 0, 0);
        }
    }

    /** Promises 4, 5 and 6: "NoSuchElementException when there is no such wire", by its pin. */
    private void pinsThatHold() {
        for (int kind = SAME; kind <= ODD; kind++) {
            int of = kind;
            Maker maker = () -> row(12, of);
            for (int number : new int[] {1, 12}) {
                pins(lastPin(kind), maker, number);
            }
        }
        for (int output = -3; output <= -1; output++) {
            pins(0, () -> row(0, SAME), output);
        }
    }

    private void pins(int last, Maker maker, int sink) {
        range("4: pin", 0, last, NO_ELEMENT, maker, "hold", 1, sink, 0, 0, 0);
        range("5: pin", 0, last, NO_ELEMENT, maker, "held", 1, sink, 0, 0);
        range("6: pin", 0, last, NO_ELEMENT, maker, "registers", 1, sink, 0);
    }

    /** Promises 4 and 5: "no such wire or register", for wires with none, with one, and with the most that wire makes. */
    private void registersThatHold() {
        for (int sink : new int[] {1, -1, -3}) {
            for (int count = 0; count <= 4; count++) {
                int registers = count;
                Maker maker = () -> {
                    MovedRegisters x = row(1, SAME);
                    x.wire(-1, sink, 0, registers);
                    return x;
                };
                range("4: register", 0, count - 1, NO_ELEMENT, maker, "hold", 2, sink, 0, 0, 0);
                range("5: register", 0, count - 1, NO_ELEMENT, maker, "held", 2, sink, 0, 0);
            }
        }
    }

    /** Promises 4 and 5 again, for a wire onto which retime has moved registers. */
    private void registersOfALongWire() {
        Maker maker = () -> {
            MovedRegisters x = oneGate(SAME, 4, 4);
            x.retime(1);
            return x;
        };
        asks("14: all eight in front", 8, maker.make(), "registers", 1, 0);
        range("4: register", 0, 7, NO_ELEMENT, maker, "hold", 2, 1, 0, 0, 0);
        range("5: register", 0, 7, NO_ELEMENT, maker, "held", 2, 1, 0, 0);
        range("5: none is left behind", 0, -1, NO_ELEMENT, maker, "held", 2, -1, 0, 0);
    }

    /** Promise 4: "IllegalArgumentException when value is not 0 .. 2". */
    private void valuesThatAreHeld() {
        range("4: value at an output", 0, 2, BAD_ARGUMENT, () -> row(1, AND), "hold", 3, -2, 0, 0, 0);
        range("4: value at a pin", 0, 2, BAD_ARGUMENT, () -> row(1, AND), "hold", 3, 1, 1, 0, 0);
    }

    /** Promises 10 and 11: there are paths between gates alone. */
    private void gatesThatPathsJoin() {
        for (String name : new String[] {"weight", "delay"}) {
            for (int gates : new int[] {1, 12}) {
                Maker maker = () -> row(gates, SAME);
                range("10, 11: from", 1, gates, NO_ELEMENT, maker, name, 0, 0, 1);
                range("10, 11: to", 1, gates, NO_ELEMENT, maker, name, 1, 1, 0);
            }
            for (int none : new int[] {-3, -1, 0, 1}) {
                asks("10, 11: no gates", NO_ELEMENT, new MovedRegisters(), name, none, none);
            }
            for (int port = -3; port <= -1; port++) {
                asks("10, 11: from an input", NO_ELEMENT, row(1, SAME), name, port, 1);
                asks("10, 11: to an output", NO_ELEMENT, row(1, SAME), name, 1, port);
            }
        }
    }

    /** Promise 14: "IllegalArgumentException when c is not 0 .. 600". */
    private void periodsToRetimeFor() {
        range("14: c", 0, 600, BAD_ARGUMENT, MovedRegisters::new, "retime", 0, 0);
        range("14: c", 0, 600, BAD_ARGUMENT, () -> evenChain(12, 50), "retime", 0, 0);
        asks("14: 600 is enough for all there can be", 2, evenChain(12, 50), "retime", 600);
        asks("14: 599 is not", 0, evenChain(12, 50), "retime", 599);
        asks("14: 0 is enough without gates", 2, new MovedRegisters(), "retime", 0);
        asks("14: 0 is enough without delays", 2, evenChain(12, 0), "retime", 0);
        asks("14: 0 is not enough for a delay of 1", 0, row(1, SAME), "retime", 0);
        asks("14: 1 is", 2, row(1, SAME), "retime", 1);
    }

    /** Promise 15: "label" of gates alone. */
    private void gatesWithLabels() {
        for (int gates : new int[] {1, 2, 12}) {
            range("15: gate", 1, gates, NO_ELEMENT, () -> row(gates, SAME), "label", 0, 0);
        }
        for (int none : new int[] {-4, -3, -1, 0, 1, 12, 13}) {
            asks("15: no gates", NO_ELEMENT, new MovedRegisters(), "label", none);
            asks("15: no such gate", none == 1 ? "0" : NO_ELEMENT, row(1, SAME), "label", none);
        }
    }

    /** Promise 16: "IllegalArgumentException when a, b or c is not 0 .. 2", also where no wire comes from the input. */
    private void valuesOfInputs() {
        for (int input = 0; input < 3; input++) {
            for (int others = 0; others <= 2; others++) {
                range("16: value", 0, 2, BAD_ARGUMENT, () -> row(2, OR), "tick", input, others, others, others);
                range("16: value", 0, 2, BAD_ARGUMENT, MovedRegisters::new, "tick", input, others, others, others);
            }
        }
    }

    /** The outermost values that are allowed do what they say. */
    private void extremesAreKept() {
        asks("2: delay 0", 0, chain(0), "period");
        asks("2: delay 50", 50, chain(50), "period");
        for (int registers : new int[] {0, 4}) {
            MovedRegisters x = new MovedRegisters();
            for (int sink = -3; sink <= -1; sink++) {
                asks("3: wire", DONE, x, "wire", sink, sink, 0, registers);
                asks("6: as many as the wire was made with", registers, x, "registers", sink, 0);
            }
        }
        MovedRegisters x = row(0, SAME);
        for (int value = 0; value <= 2; value++) {
            asks("4: hold", DONE, x, "hold", -3, 0, 0, value);
            asks("5: the value that it was given", value, x, "held", -3, 0, 0);
            asks("16: the value that it was given", 2 + 4 * 2 + 16 * value, x, "tick", 0, 0, 0);
        }
        MovedRegisters wires = new MovedRegisters();
        for (int port = -3; port <= -1; port++) {
            wires.wire(port, port, 0, 0);
        }
        asks("16: the least values", 0, wires, "tick", 0, 0, 0);
        asks("16: the greatest values", 2 + 4 * 2 + 16 * 2, wires, "tick", 2, 2, 2);
        asks("16: each at its own place", 1 + 4 * 0 + 16 * 2, wires, "tick", 1, 0, 2);
    }

    private static int lastPin(int kind) {
        return kind >= AND ? 1 : 0;
    }

    /** Every value in reach of the bounds and those far away, each for a new circuit. */
    private void range(String what, int low, int high, String refusal, Maker maker, String name, int at, int... rest) {
        for (int value : new int[] {Integer.MIN_VALUE, low - 1, low, high, high + 1, Integer.MAX_VALUE}) {
            probe(what, value >= low && value <= high ? ALLOWED : refusal, maker, name, at, value, rest);
        }
    }

    /** The ends of wires: -3 .. -1 and the gates; 0, between them, is none. */
    private void ends(String what, int gates, Maker maker, String name, int at, int... rest) {
        for (int value : new int[] {Integer.MIN_VALUE, -4, -3, -2, -1, 0, 1, gates, gates + 1, 13, Integer.MAX_VALUE}) {
            boolean there = value >= -3 && value <= gates && value != 0;
            probe(what, there ? ALLOWED : NO_ELEMENT, maker, name, at, value, rest);
        }
    }

    private void probe(String what, String want, Maker maker, String name, int at, int value, int... rest) {
        int[] arguments = rest.clone();
        arguments[at] = value;
        String answer = Due.outcome(() -> call(maker.make(), name, arguments));
        String told = what + ": " + name + java.util.Arrays.toString(arguments);
        due.same(told, want, () -> answer.startsWith("throws.") ? answer : ALLOWED);
    }
}
