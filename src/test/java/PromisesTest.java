/** Each promise of the document: ordinary inputs, the edges that it names, and wrong inputs. */
public final class PromisesTest extends Bench {
    /** Beside the numbers of gates and ports, ones from which nothing may be reckoned without a look. */
    private static final int[] NO_ENDS = {0, -4, 13, Integer.MIN_VALUE, Integer.MAX_VALUE};

    private PromisesTest() {
        super("PromisesTest");
    }

    public static void main(String[] args) {
        PromisesTest test = new PromisesTest();
        test.newObject();
        test.gate();
        test.wire();
        test.wireInPlaceOfAnother();
        test.hold();
        test.held();
        test.registers();
        test.gates();
        test.sound();
        test.period();
        test.weightAndDelay();
        test.least();
        test.leastKeepsToLimits();
        test.shared();
        test.retimeForward();
        test.retimeBackward();
        test.retimeConflict();
        test.retimeWithoutLabelling();
        test.retimeLimits();
        test.movesOverKinds();
        test.movesOverCircles();
        test.label();
        test.tickKinds();
        test.tickRegisters();
        test.tickWrong();
        test.runBeginsAnew();
        test.restart();
        test.due.end();
    }

    /** Promise 1. */
    private void newObject() {
        MovedRegisters x = new MovedRegisters();
        due.same("1: gates", 0, x::gates);
        due.same("1: sound", true, x::sound);
        due.same("1: period", 0, x::period);
        due.same("1: least", 0, x::least);
        due.same("1: shared", 0, x::shared);
        due.same("1: tick", 63, () -> x.tick(0, 1, 2));
        due.same("1: retime", 2, () -> x.retime(0));
        for (int output = -3; output <= -1; output++) {
            int sink = output;
            due.same("1: registers", NO_ELEMENT, () -> x.registers(sink, 0));
        }
        due.same("1: label", NO_ELEMENT, () -> x.label(1));
    }

    /** Promise 2. */
    private void gate() {
        MovedRegisters x = new MovedRegisters();
        for (int wrong : new int[] {-1, 5, Integer.MIN_VALUE, Integer.MAX_VALUE}) {
            due.same("2: kind", BAD_ARGUMENT, () -> x.gate(wrong, 0));
        }
        for (int wrong : new int[] {-1, 51, Integer.MIN_VALUE, Integer.MAX_VALUE}) {
            due.same("2: delay", BAD_ARGUMENT, () -> x.gate(0, wrong));
        }
        for (int number = 1; number <= 12; number++) {
            int kind = number % 5;
            int delay = number % 2 == 0 ? 0 : 50;
            due.same("2: gate", number, () -> x.gate(kind, delay));
        }
        due.same("2: the thirteenth", FULL, () -> x.gate(0, 0));
        due.same("2: the wrong kind comes first", BAD_ARGUMENT, () -> x.gate(5, 0));
        due.same("2: the wrong delay comes first", BAD_ARGUMENT, () -> x.gate(0, 51));
        due.same("2: gates", 12, x::gates);
    }

    /** Promise 3. */
    private void wire() {
        MovedRegisters x = new MovedRegisters();
        x.gate(SAME, 1);
        x.gate(AND, 1);
        for (int none : NO_ENDS) {
            due.same("3: source", NO_ELEMENT, () -> wire(x, none, 1, 0, 0));
            due.same("3: sink", NO_ELEMENT, () -> wire(x, 1, none, 0, 0));
            due.same("3: source before pin", NO_ELEMENT, () -> wire(x, none, 1, 9, 9));
        }
        due.same("3: no gate yet", NO_ELEMENT, () -> wire(x, 3, 1, 0, 0));
        due.same("3: no gate yet", NO_ELEMENT, () -> wire(x, 1, 3, 0, 0));
        for (int pin : new int[] {-1, 1, 2, Integer.MIN_VALUE, Integer.MAX_VALUE}) {
            due.same("3: pin of SAME", BAD_ARGUMENT, () -> wire(x, -1, 1, pin, 0));
            due.same("3: pin of an output", BAD_ARGUMENT, () -> wire(x, -1, -3, pin, 0));
        }
        due.same("3: pin of AND", BAD_ARGUMENT, () -> wire(x, -1, 2, 2, 0));
        due.same("3: pin of AND", BAD_ARGUMENT, () -> wire(x, -1, 2, -1, 0));
        due.same("3: registers", BAD_ARGUMENT, () -> wire(x, -1, 2, 0, -1));
        due.same("3: registers", BAD_ARGUMENT, () -> wire(x, -1, 2, 0, 5));
        due.same("3: nothing is there", NO_ELEMENT, () -> x.registers(2, 0));
        for (int source = -3; source <= 2; source++) {
            for (int sink = -3; sink <= 2; sink++) {
                if (source != 0 && sink != 0) {
                    wireAndLook(x, source, sink, sink == 2 ? 1 : 0);
                }
            }
        }
        pinsByKind();
    }

    private void wireAndLook(MovedRegisters x, int source, int sink, int pin) {
        for (int registers = 0; registers <= 4; registers += 4) {
            int made = registers;
            due.same("3: wire", DONE, () -> wire(x, source, sink, pin, made));
            due.same("3: registers", made, () -> x.registers(sink, pin));
        }
        for (int register = 0; register < 4; register++) {
            int at = register;
            due.same("3: UNKNOWN", 2, () -> x.held(sink, pin, at));
        }
    }

    private void pinsByKind() {
        MovedRegisters x = new MovedRegisters();
        for (int kind = SAME; kind <= ODD; kind++) {
            int number = x.gate(kind, 0);
            due.same("3: pin 0", DONE, () -> wire(x, -1, number, 0, 0));
            due.same("3: pin 1", kind >= AND ? DONE : BAD_ARGUMENT, () -> wire(x, -1, number, 1, 0));
            due.same("3: pin 2", BAD_ARGUMENT, () -> wire(x, -1, number, 2, 0));
        }
    }

    /** Promise 3. */
    private void wireInPlaceOfAnother() {
        MovedRegisters x = new MovedRegisters();
        x.wire(-1, -1, 0, 2);
        x.hold(-1, 0, 0, 1);
        x.hold(-1, 0, 1, 0);
        x.wire(-1, -1, 0, 3);
        due.same("3: new registers", 3, () -> x.registers(-1, 0));
        due.same("3: UNKNOWN again", 2, () -> x.held(-1, 0, 0));
        due.same("3: UNKNOWN again", 2, () -> x.held(-1, 0, 1));
        x.wire(-2, -1, 0, 0);
        due.same("3: the new source", 60, () -> x.tick(1, 0, 1));
        x.wire(-1, -1, 0, 0);
        due.same("3: the old source", 61, () -> x.tick(1, 0, 1));
    }

    /** Promise 4. */
    private void hold() {
        MovedRegisters x = new MovedRegisters();
        x.gate(OR, 1);
        x.wire(-1, 1, 1, 3);
        for (int none : NO_ENDS) {
            due.same("4: sink", NO_ELEMENT, () -> hold(x, none, 0, 0, 0));
        }
        due.same("4: pin without a wire", NO_ELEMENT, () -> hold(x, 1, 0, 0, 0));
        due.same("4: output without a wire", NO_ELEMENT, () -> hold(x, -1, 0, 0, 0));
        for (int wrong : new int[] {-1, 2, Integer.MIN_VALUE, Integer.MAX_VALUE}) {
            due.same("4: pin", NO_ELEMENT, () -> hold(x, 1, wrong, 0, 0));
        }
        for (int wrong : new int[] {-1, 3, 32, Integer.MIN_VALUE, Integer.MAX_VALUE}) {
            due.same("4: register", NO_ELEMENT, () -> hold(x, 1, 1, wrong, 0));
            due.same("4: register before value", NO_ELEMENT, () -> hold(x, 1, 1, wrong, 9));
            due.same("4: value", BAD_ARGUMENT, () -> hold(x, 1, 1, 0, wrong));
        }
        due.same("4: hold", DONE, () -> hold(x, 1, 1, 0, 1));
        due.same("4: hold", DONE, () -> hold(x, 1, 1, 1, 0));
        due.same("4: held", "1 0 2", () -> all(x, 1, 1));
        due.same("4: hold again", DONE, () -> hold(x, 1, 1, 1, 1));
        due.same("4: hold UNKNOWN", DONE, () -> hold(x, 1, 1, 0, 2));
        due.same("4: hold", DONE, () -> hold(x, 1, 1, 2, 0));
        due.same("4: held", "2 1 0", () -> all(x, 1, 1));
    }

    /** Promise 5. */
    private void held() {
        MovedRegisters x = new MovedRegisters();
        x.gate(AND, 1);
        x.wire(-1, 1, 0, 4);
        x.wire(-1, -2, 0, 1);
        for (int none : NO_ENDS) {
            due.same("5: sink", NO_ELEMENT, () -> x.held(none, 0, 0));
        }
        due.same("5: no such wire", NO_ELEMENT, () -> x.held(1, 1, 0));
        due.same("5: no such pin", NO_ELEMENT, () -> x.held(1, 2, 0));
        due.same("5: no such pin", NO_ELEMENT, () -> x.held(1, -1, 0));
        due.same("5: no such pin", NO_ELEMENT, () -> x.held(-2, 1, 0));
        due.same("5: no such register", NO_ELEMENT, () -> x.held(1, 0, 4));
        due.same("5: no such register", NO_ELEMENT, () -> x.held(1, 0, -1));
        due.same("5: no such register", NO_ELEMENT, () -> x.held(-2, 0, 1));
        due.same("5: the last one", 2, () -> x.held(1, 0, 3));
        x.hold(-2, 0, 0, 1);
        due.same("5: of an output", 1, () -> x.held(-2, 0, 0));
    }

    /** Promise 6. */
    private void registers() {
        MovedRegisters x = new MovedRegisters();
        x.gate(AND, 1);
        x.wire(-1, 1, 1, 4);
        x.wire(1, -3, 0, 0);
        due.same("6: four", 4, () -> x.registers(1, 1));
        due.same("6: none", 0, () -> x.registers(-3, 0));
        for (int none : NO_ENDS) {
            due.same("6: sink", NO_ELEMENT, () -> x.registers(none, 0));
        }
        due.same("6: no such wire", NO_ELEMENT, () -> x.registers(1, 0));
        due.same("6: no such wire", NO_ELEMENT, () -> x.registers(-1, 0));
        due.same("6: no such pin", NO_ELEMENT, () -> x.registers(1, 2));
        due.same("6: no such pin", NO_ELEMENT, () -> x.registers(1, -1));
        due.same("6: no such pin", NO_ELEMENT, () -> x.registers(-3, 1));
    }

    /** Promise 7. */
    private void gates() {
        MovedRegisters x = new MovedRegisters();
        for (int number = 1; number <= 12; number++) {
            x.gate(0, 0);
            int want = number;
            due.same("7: gates", want, x::gates);
        }
        due.same("7: no more", FULL, () -> x.gate(0, 0));
        due.same("7: gates", 12, x::gates);
    }

    /** Promise 8. */
    private void sound() {
        MovedRegisters x = new MovedRegisters();
        x.wire(-1, -1, 0, 0);
        due.same("8: wires alone", true, x::sound);
        x.gate(AND, 1);
        due.same("8: no pin has a wire", false, x::sound);
        x.wire(-1, 1, 0, 0);
        x.wire(1, -2, 0, 0);
        due.same("8: one pin has none", false, x::sound);
        x.wire(-1, 1, 1, 0);
        due.same("8: all is there", true, x::sound);
        x.wire(-1, -2, 0, 0);
        due.same("8: the gate is no source", false, x::sound);
        x.wire(1, 1, 1, 0);
        due.same("8: a gate before itself", false, x::sound);
        x.wire(1, 1, 1, 1);
        due.same("8: a register between", true, x::sound);

        MovedRegisters ring = ring(0);
        due.same("8: a ring without registers", false, ring::sound);
        due.same("8: a ring with one", true, ring(1)::sound);
    }

    /** Promise 9. */
    private void period() {
        MovedRegisters x = chain(2, 7, 50);
        due.same("9: all in a row", 59, x::period);
        x.wire(1, 2, 0, 1);
        due.same("9: a register behind the first", 57, x::period);
        x.wire(2, 3, 0, 1);
        due.same("9: each alone", 50, x::period);
        x.wire(1, -2, 0, 0);
        x.wire(-2, 2, 0, 0);
        due.same("9: no path over an output and an input", 50, x::period);
        x.gate(SAME, 0);
        due.same("9: not sound", BAD_STATE, x::period);
        due.same("9: the ring", 78, ring(1)::period);
        due.same("9: gates without delay", 0, chain(0, 0)::period);
        due.same("9: the longest there is", 600,
            chain(50, 50, 50, 50, 50, 50, 50, 50, 50, 50, 50, 50)::period);
    }

    /** Promises 10 and 11. */
    private void weightAndDelay() {
        MovedRegisters x = new MovedRegisters();
        x.gate(AND, 3);
        x.gate(SAME, 10);
        x.gate(SAME, 20);
        x.gate(OR, 5);
        x.gate(ODD, 50);
        // From 1 to 4 over 2 and over 3 with 2 registers each, and over 5 with 3.
        x.wire(-1, 1, 0, 0);
        x.wire(4, 1, 1, 1);
        x.wire(1, 2, 0, 1);
        x.wire(1, 3, 0, 0);
        x.wire(2, 4, 0, 1);
        x.wire(3, 4, 1, 2);
        x.wire(1, 5, 0, 4);
        x.wire(4, 5, 1, 0);
        x.wire(5, -1, 0, 0);
        due.same("11: the slower of two ways of one weight", 28, () -> x.delay(1, 4));
        due.same("10: two ways of one weight", 2, () -> x.weight(1, 4));
        due.same("10: the lighter way, although it is longer", 2, () -> x.weight(1, 5));
        due.same("11: the lighter way, although it is longer", 78, () -> x.delay(1, 5));
        due.same("10: the same gate", 0, () -> x.weight(4, 4));
        due.same("11: the same gate, though there is a circle", 5, () -> x.delay(4, 4));
        due.same("10: round the circle", 1, () -> x.weight(4, 3));
        due.same("11: round the circle", 28, () -> x.delay(4, 3));
        due.same("10: no path", -1, () -> x.weight(5, 1));
        due.same("11: no path", -1, () -> x.delay(5, 1));
        for (int none : new int[] {0, -1, 6, Integer.MIN_VALUE, Integer.MAX_VALUE}) {
            due.same("10: from", NO_ELEMENT, () -> x.weight(none, 1));
            due.same("10: to", NO_ELEMENT, () -> x.weight(1, none));
            due.same("11: from", NO_ELEMENT, () -> x.delay(none, 1));
            due.same("11: to", NO_ELEMENT, () -> x.delay(1, none));
        }
        x.gate(SAME, 0);
        due.same("10: not sound", BAD_STATE, () -> x.weight(1, 4));
        due.same("11: not sound", BAD_STATE, () -> x.delay(1, 4));
        due.same("10: no gate comes first", NO_ELEMENT, () -> x.weight(1, 7));
        due.same("11: no gate comes first", NO_ELEMENT, () -> x.delay(7, 1));
    }

    /** Promise 12. */
    private void least() {
        MovedRegisters x = chain(4, 6, 3, 2);
        due.same("12: no register to move", 15, x::least);
        x.wire(-1, 1, 0, 1);
        due.same("12: one register", 10, x::least);
        due.same("12: not less", 0, () -> x.retime(9));
        x.wire(-1, 1, 0, 0);
        x.wire(4, -1, 0, 2);
        due.same("12: two registers at the end", 6, x::least);
        due.same("12: the circuit is as it was", 15, x::period);
        due.same("12: the circuit is as it was", 2, () -> x.registers(-1, 0));
        due.same("12: a ring keeps its one register", 78, ring(1)::least);
        due.same("12: a ring with four", 22, ring(4)::least);
        for (int delay = 1; delay <= 50; delay++) {
            MovedRegisters two = chain(delay, 1);
            two.wire(2, -1, 0, 1);
            due.same("12: the greater delay of two", delay, two::least);
        }
        x.gate(SAME, 0);
        due.same("12: not sound", BAD_STATE, x::least);
    }

    /** Promise 12: with gates without delay, and where the labels end at -6. */
    private void leastKeepsToLimits() {
        MovedRegisters late = chain(0, 0, 0, 0, 0, 0, 0, 0, 0, 0, 10, 10);
        late.wire(-1, 1, 0, 1);
        due.same("12: one register over eleven gates", 10, late::least);
        due.same("12: so it is reached", 2, () -> late.retime(10));
        due.same("12: moved over all but the last", "-1 -1 -1 -1 -1 -1 -1 -1 -1 -1 -1 0", () -> labels(late));
        due.same("12: seven gates, the first at -6", 1, withEightInFront(7)::least);
        due.same("12: eight gates would have it at -7", 2, withEightInFront(8)::least);
    }

    /** A row of gates of delay 1 with eight registers in front, half of which were behind it. */
    private static MovedRegisters withEightInFront(int gates) {
        MovedRegisters x = evenChain(gates, 1);
        x.wire(-1, 1, 0, 4);
        x.wire(gates, -1, 0, 4);
        x.retime(600);
        return x;
    }

    /** Promise 13. */
    private void shared() {
        MovedRegisters x = new MovedRegisters();
        x.gate(AND, 1);
        x.gate(SAME, 1);
        x.wire(-1, 1, 0, 2);
        x.wire(-1, 1, 1, 3);
        x.wire(1, 2, 0, 1);
        x.wire(1, -1, 0, 4);
        x.wire(2, -2, 0, 0);
        due.same("13: 3 from -1, 4 from gate 1", 7, x::shared);
        x.wire(-3, -3, 0, 2);
        due.same("13: from an input to an output", 9, x::shared);
        x.wire(2, -1, 0, 4);
        due.same("13: another source", 10, x::shared);
        x.gate(SAME, 0);
        due.same("13: not sound", BAD_STATE, x::shared);
        MovedRegisters one = oneGate(SAME, 3, 1);
        due.same("13: at the first pin of all", 4, one::shared);
    }

    /** Promise 14. */
    private void retimeForward() {
        MovedRegisters x = chain(5, 5);
        x.wire(-1, 1, 0, 2);
        x.hold(1, 0, 0, 1);
        x.hold(1, 0, 1, 0);
        due.same("14: forward", 2, () -> x.retime(5));
        due.same("14: labels", "-1 0", () -> labels(x));
        due.same("14: one is left in front", "0", () -> all(x, 1, 0));
        due.same("14: one is between", "1", () -> all(x, 2, 0));
        due.same("14: none behind", "", () -> all(x, -1, 0));
        due.same("14: period", 5, x::period);
        // A greater period asks for no register between: the greatest labelling lets it go back again.
        due.same("14: back again", 2, () -> x.retime(10));
        due.same("14: labels", "1 0", () -> labels(x));
        due.same("14: what went forward as 1 comes back", "1 0", () -> all(x, 1, 0));
    }

    /** Promise 14: the greatest labelling moves backward even where nothing must move. */
    private void retimeBackward() {
        MovedRegisters x = new MovedRegisters();
        x.gate(NOT, 5);
        x.gate(AND, 5);
        x.wire(-1, 1, 0, 0);
        x.wire(1, 2, 0, 0);
        x.wire(-2, 2, 1, 1);
        x.wire(2, -1, 0, 3);
        x.wire(2, -2, 0, 2);
        for (int register = 0; register < 3; register++) {
            x.hold(-1, 0, register, register == 1 ? 0 : 1);
        }
        x.hold(-2, 0, 0, 2);
        x.hold(-2, 0, 1, 1);
        x.hold(2, 1, 0, 0);
        due.same("14: backward", 2, () -> x.retime(600));
        due.same("14: labels", "2 2", () -> labels(x));
        due.same("14: over AND, 0 joined with UNKNOWN, then 1", "2 1 0", () -> all(x, 2, 1));
        due.same("14: all of pin 0 went on over NOT", "", () -> all(x, 2, 0));
        due.same("14: over NOT", "1 0", () -> all(x, 1, 0));
        due.same("14: what stays nearest to the outputs", "1", () -> all(x, -1, 0));
        due.same("14: what stays nearest to the outputs", "", () -> all(x, -2, 0));
    }

    /** Promise 14. */
    private void retimeConflict() {
        MovedRegisters x = new MovedRegisters();
        x.gate(SAME, 4);
        x.gate(SAME, 4);
        x.wire(-1, 1, 0, 1);
        x.wire(1, 2, 0, 0);
        x.wire(2, -1, 0, 1);
        x.wire(2, -2, 0, 1);
        x.hold(1, 0, 0, 1);
        x.hold(-1, 0, 0, 0);
        x.hold(-2, 0, 0, 1);
        due.same("14: a conflict, so forward", 1, () -> x.retime(4));
        due.same("14: labels", "-1 0", () -> labels(x));
        due.same("14: moved forward", "1", () -> all(x, 2, 0));
        due.same("14: the two stay", "0", () -> all(x, -1, 0));
        due.same("14: the two stay", "1", () -> all(x, -2, 0));
        x.wire(1, 2, 0, 0);
        x.wire(-1, 1, 0, 0);
        due.same("14: a conflict, and no forward one", 0, () -> x.retime(4));
        due.same("14: nothing is changed", "-1 0", () -> labels(x));
        due.same("14: nothing is changed", "0", () -> all(x, -1, 0));
        due.same("14: no labelling at all", 0, () -> x.retime(3));
        due.same("14: in a conflict nothing need move", 1, () -> x.retime(8));
        due.same("14: labels of zeros", "0 0", () -> labels(x));
        x.hold(-2, 0, 0, 2);
        due.same("14: UNKNOWN is no conflict", 2, () -> x.retime(4));
        due.same("14: labels", "0 1", () -> labels(x));
        due.same("14: the known value", "0", () -> all(x, 2, 0));
    }

    /** Promise 14. */
    private void retimeWithoutLabelling() {
        MovedRegisters x = chain(5, 7);
        x.wire(-1, 1, 0, 1);
        due.same("14: below a gate's delay", 0, () -> x.retime(6));
        due.same("14: 0", 0, () -> x.retime(0));
        due.same("14: nothing is changed", 1, () -> x.registers(1, 0));
        due.same("14: below 0", BAD_ARGUMENT, () -> x.retime(-1));
        due.same("14: above 600", BAD_ARGUMENT, () -> x.retime(601));
        due.same("14: far below", BAD_ARGUMENT, () -> x.retime(Integer.MIN_VALUE));
        due.same("14: far above", BAD_ARGUMENT, () -> x.retime(Integer.MAX_VALUE));
        due.same("14: 7", 2, () -> x.retime(7));
        x.gate(SAME, 0);
        due.same("14: not sound", BAD_STATE, () -> x.retime(7));
        due.same("14: not sound comes first", BAD_STATE, () -> x.retime(601));
        MovedRegisters quick = chain(0, 0);
        due.same("14: gates without delay", 2, () -> quick.retime(0));
    }

    /** Promise 14: labels are -6 .. 6, and no wire comes to hold more than 20. */
    private void retimeLimits() {
        // A ring of its own is free to turn, so its labels go up to 6.
        MovedRegisters ring = new MovedRegisters();
        ring.gate(NOT, 1);
        ring.gate(SAME, 1);
        ring.wire(1, 2, 0, 1);
        ring.wire(2, 1, 0, 0);
        due.same("14: a free ring", 2, () -> ring.retime(2));
        due.same("14: labels", "6 6", () -> labels(ring));

        // Gate 2 is the source of itself alone: nothing but 20 on the wire from the input holds it back.
        MovedRegisters x = new MovedRegisters();
        x.gate(SAME, 1);
        x.wire(1, 1, 0, 1);
        x.wire(1, -1, 0, 4);
        x.gate(AND, 1);
        x.wire(-1, 2, 0, 4);
        x.wire(2, 2, 1, 1);
        due.same("14: an output holds the first back", 2, () -> x.retime(2));
        due.same("14: labels", "4 6", () -> labels(x));
        due.same("14: ten", 10, () -> x.registers(2, 0));
        due.same("14: again", 2, () -> x.retime(2));
        due.same("14: labels", "0 6", () -> labels(x));
        due.same("14: sixteen", 16, () -> x.registers(2, 0));
        due.same("14: again", 2, () -> x.retime(2));
        due.same("14: no more than twenty", "0 4", () -> labels(x));
        due.same("14: twenty", 20, () -> x.registers(2, 0));
        due.same("14: the last of them", 2, () -> x.held(2, 0, 19));
        due.same("14: no more", NO_ELEMENT, () -> x.held(2, 0, 20));
        due.same("14: again", 2, () -> x.retime(2));
        due.same("14: full", "0 0", () -> labels(x));
        downToTheLowestLabel();
    }

    private void downToTheLowestLabel() {
        MovedRegisters x = chain(1, 1, 1, 1, 1, 1, 1);
        x.wire(-1, 1, 0, 4);
        due.same("14: three moved", 2, () -> x.retime(2));
        due.same("14: labels", "-3 -2 -2 -1 -1 0 0", () -> labels(x));
        due.same("14: registers", "1 1 0 1 0 1 0 0", () -> lengths(x));
        x.wire(-1, 1, 0, 4);
        due.same("14: three more", 2, () -> x.retime(1));
        due.same("14: labels", "-3 -3 -2 -2 -1 -1 0", () -> labels(x));
        due.same("14: registers", "1 1 1 1 1 1 1 0", () -> lengths(x));

        MovedRegisters row = withEightInFront(7);
        due.same("14: gathered", "8 0 0 0 0 0 0 0", () -> lengths(row));
        due.same("14: -6", 2, () -> row.retime(1));
        due.same("14: labels", "-6 -5 -4 -3 -2 -1 0", () -> labels(row));
        due.same("14: registers", "2 1 1 1 1 1 1 0", () -> lengths(row));
        MovedRegisters longer = withEightInFront(8);
        due.same("14: -7 is no label", 0, () -> longer.retime(1));
        lowestLabelAtTheLastGate();
    }

    /** The row of eight again, numbered from its end on. */
    private void lowestLabelAtTheLastGate() {
        MovedRegisters x = new MovedRegisters();
        for (int number = 1; number <= 8; number++) {
            x.gate(SAME, 1);
            x.wire(number, number == 1 ? -1 : number - 1, 0, number == 1 ? 4 : 0);
        }
        x.wire(-1, 8, 0, 4);
        due.same("14: gathered", 2, () -> x.retime(8));
        due.same("14: eight in front", 8, () -> x.registers(8, 0));
        due.same("14: -7 is no label of the last gate", 0, () -> x.retime(1));
        due.same("14: -3 is one", 2, () -> x.retime(2));
        due.same("14: labels", "0 0 -1 -1 -2 -2 -3 -3", () -> labels(x));
    }

    /** MOVES over each kind of gate. */
    private void movesOverKinds() {
        String[][] back = {{"0", "1", "2"}, {"1", "0", "2"}, {"0 2", "1 1", "2 2"}, {"0 0", "1 2", "2 2"},
            {"0 0", "1 0", "2 2"}};
        for (int kind = SAME; kind <= ODD; kind++) {
            for (int value = 0; value <= 2; value++) {
                MovedRegisters x = oneGate(kind, 0, 1);
                x.hold(-1, 0, 0, value);
                due.same("14: backward", 2, () -> x.retime(1));
                due.same("14: backward over kind " + kind, back[kind][value], () -> pins(x));
            }
        }
        int[][][] forward = {{{0, 1, 2}}, {{1, 0, 2}}, {{0, 0, 0}, {0, 1, 2}, {0, 2, 2}},
            {{0, 1, 2}, {1, 1, 1}, {2, 1, 2}}, {{0, 1, 2}, {1, 0, 2}, {2, 2, 2}}};
        for (int kind = SAME; kind <= ODD; kind++) {
            for (int second = 0; second < forward[kind].length; second++) {
                for (int first = 0; first <= 2; first++) {
                    moveForward(kind, first, second, forward[kind][second][first]);
                }
            }
        }
    }

    private void moveForward(int kind, int first, int second, int want) {
        MovedRegisters x = oneGate(kind, 1, 0);
        int slow = x.gate(SAME, 1);
        x.wire(1, slow, 0, 0);
        x.wire(slow, -1, 0, 0);
        x.hold(1, 0, 0, first);
        if (kind >= AND) {
            x.hold(1, 1, 0, second);
        }
        due.same("14: forward", 2, () -> x.retime(1));
        due.same("14: forward over kind " + kind, want, () -> x.held(slow, 0, 0));
    }

    private static String pins(MovedRegisters x) {
        String first = all(x, 1, 0);
        String second = Due.outcome(() -> x.registers(1, 1));
        return second.startsWith("throws") ? first : first + " " + all(x, 1, 1);
    }

    /** MOVES over a gate that is wired to itself: what comes is put only when all is taken. */
    private void movesOverCircles() {
        MovedRegisters x = new MovedRegisters();
        x.gate(NOT, 1);
        x.wire(1, 1, 0, 1);
        x.wire(1, -1, 0, 3);
        x.hold(1, 0, 0, 1);
        x.hold(-1, 0, 2, 1);
        x.hold(-1, 0, 1, 0);
        due.same("14: round the circle", 2, () -> x.retime(1));
        due.same("14: labels", "3", () -> labels(x));
        due.same("14: turned three times", "0", () -> all(x, 1, 0));
        x.wire(1, -1, 0, 3);
        x.hold(-1, 0, 2, 1);
        due.same("14: the circle tells another value", 1, () -> x.retime(1));
        due.same("14: stays", "0", () -> all(x, 1, 0));

        MovedRegisters both = new MovedRegisters();
        both.gate(ODD, 1);
        both.wire(1, 1, 0, 1);
        both.wire(1, 1, 1, 1);
        both.hold(1, 0, 0, 1);
        both.hold(1, 1, 0, 1);
        due.same("14: the second turn is a conflict", 1, () -> both.retime(1));
        due.same("14: forward", "0", () -> labels(both));
        both.hold(1, 0, 0, 0);
        both.hold(1, 1, 0, 0);
        due.same("14: zeros agree", 2, () -> both.retime(1));
        due.same("14: labels", "6", () -> labels(both));
    }

    /** Promise 15. */
    private void label() {
        MovedRegisters x = chain(5, 5);
        x.wire(2, -1, 0, 1);
        for (int none : new int[] {0, -1, 3, 13, Integer.MIN_VALUE, Integer.MAX_VALUE}) {
            due.same("15: no gate", NO_ELEMENT, () -> x.label(none));
        }
        due.same("15: before any retime", "0 0", () -> labels(x));
        x.retime(5);
        due.same("15: after one", "0 1", () -> labels(x));
        x.retime(4);
        due.same("15: after one that answers 0", "0 1", () -> labels(x));
        x.gate(SAME, 1);
        due.same("15: of a later gate", "0 1 0", () -> labels(x));
        x.wire(2, 3, 0, 2);
        x.wire(3, -1, 0, 2);
        due.same("15: of a circuit that is not sound too", "0 1 0", () -> labels(x));
        x.retime(600);
        due.same("15: after another", "5 4 2", () -> labels(x));
    }

    /** Promise 16. */
    private void tickKinds() {
        int[][] made = {{0, 1, 2, 0, 1, 2, 0, 1, 2}, {1, 0, 2, 1, 0, 2, 1, 0, 2}, {0, 0, 0, 0, 1, 2, 0, 2, 2},
            {0, 1, 2, 1, 1, 1, 2, 1, 2}, {0, 1, 2, 1, 0, 2, 2, 2, 2}};
        for (int kind = SAME; kind <= ODD; kind++) {
            MovedRegisters x = oneGate(kind, 0, 0);
            for (int i = 0; i < 9; i++) {
                int a = i % 3;
                int b = i / 3;
                due.same("16: kind " + kind, made[kind][i] + 60, () -> x.tick(a, b, 0));
            }
        }
    }

    /** Promise 16. */
    private void tickRegisters() {
        MovedRegisters x = new MovedRegisters();
        x.wire(-3, -1, 0, 2);
        x.wire(-2, -3, 0, 0);
        x.wire(-1, -2, 0, 1);
        x.hold(-1, 0, 0, 1);
        x.hold(-1, 0, 1, 0);
        due.same("16: register 0, input, UNKNOWN", 1 + 4 * 2 + 16 * 0, () -> x.tick(1, 0, 1));
        due.same("16: the next one", 0 + 4 * 1 + 16 * 2, () -> x.tick(0, 2, 2));
        due.same("16: what came in", 1 + 4 * 0 + 16 * 1, () -> x.tick(0, 1, 0));
        due.same("16: what came in", 2 + 4 * 0 + 16 * 1, () -> x.tick(0, 1, 0));
        due.same("16: the circuit keeps its values", "1 0", () -> all(x, -1, 0));

        // The gates are settled by their wires, not by their numbers.
        MovedRegisters turned = new MovedRegisters();
        turned.gate(NOT, 1);
        turned.gate(NOT, 1);
        turned.gate(NOT, 1);
        turned.wire(-1, 3, 0, 0);
        turned.wire(3, 2, 0, 0);
        turned.wire(2, 1, 0, 0);
        turned.wire(1, -1, 0, 0);
        due.same("16: three times NOT", 60, () -> turned.tick(1, 0, 0));
        due.same("16: three times NOT", 61, () -> turned.tick(0, 0, 0));

        MovedRegisters counter = new MovedRegisters();
        counter.gate(NOT, 1);
        counter.wire(1, 1, 0, 1);
        counter.wire(1, -1, 0, 0);
        due.same("16: unknown for ever", 62, () -> counter.tick(0, 0, 0));
        counter.hold(1, 0, 0, 0);
        due.same("16: to and fro", 61, () -> counter.tick(0, 0, 0));
        due.same("16: to and fro", 60, () -> counter.tick(0, 0, 0));
        due.same("16: to and fro", 61, () -> counter.tick(0, 0, 0));
    }

    /** Promise 16. */
    private void tickWrong() {
        MovedRegisters x = new MovedRegisters();
        x.wire(-1, -1, 0, 1);
        x.hold(-1, 0, 0, 1);
        for (int wrong : new int[] {-1, 3, Integer.MIN_VALUE, Integer.MAX_VALUE}) {
            due.same("16: a", BAD_ARGUMENT, () -> x.tick(wrong, 0, 0));
            due.same("16: b", BAD_ARGUMENT, () -> x.tick(0, wrong, 0));
            due.same("16: c", BAD_ARGUMENT, () -> x.tick(0, 0, wrong));
        }
        due.same("16: no tick was made", 61, () -> x.tick(0, 0, 0));
        x.gate(SAME, 0);
        due.same("16: not sound", BAD_STATE, () -> x.tick(0, 0, 0));
        due.same("16: not sound comes first", BAD_STATE, () -> x.tick(3, 0, 0));
    }

    /** The RUN: which calls begin it anew, and which do not. */
    private void runBeginsAnew() {
        MovedRegisters x = new MovedRegisters();
        x.gate(SAME, 1);
        x.wire(-1, 1, 0, 0);
        x.wire(1, -1, 0, 2);
        x.hold(-1, 0, 0, 1);
        x.hold(-1, 0, 1, 1);
        due.same("run: first tick", 61, () -> x.tick(0, 0, 0));
        due.same("run: second tick", 61, () -> x.tick(0, 0, 0));
        askAll(x);
        Due.outcome(() -> wire(x, 9, 1, 0, 0));
        Due.outcome(() -> hold(x, -1, 0, 0, 3));
        Due.outcome(() -> x.gate(9, 0));
        due.same("run: a retime that answers 0", 0, () -> x.retime(0));
        due.same("run: goes on", 60, () -> x.tick(0, 0, 0));
        x.hold(-1, 0, 1, 1);
        due.same("run: anew after hold", 61, () -> x.tick(0, 0, 0));
        x.tick(0, 0, 0);
        x.wire(-2, -2, 0, 0);
        due.same("run: anew after wire", 1 + 4 * 0 + 48, () -> x.tick(0, 0, 0));
        x.tick(0, 0, 0);
        x.tick(0, 0, 0);
        due.same("run: retime", 2, () -> x.retime(1));
        due.same("run: anew after retime", 1 + 4 * 0 + 48, () -> x.tick(0, 0, 0));
        due.same("run: from where it was moved to", 1 + 4 * 0 + 48, () -> x.tick(0, 0, 0));
        due.same("run: then the inputs", 0 + 4 * 0 + 48, () -> x.tick(0, 0, 0));
        anewAfterGate();
    }

    private void anewAfterGate() {
        MovedRegisters x = new MovedRegisters();
        x.wire(-1, -1, 0, 1);
        x.hold(-1, 0, 0, 1);
        due.same("run: first tick", 61, () -> x.tick(0, 0, 0));
        due.same("run: second tick", 60, () -> x.tick(0, 0, 0));
        x.gate(SAME, 1);
        // Only the wires that make it sound follow, and they begin the run anew as well.
        x.wire(1, 1, 0, 1);
        due.same("run: anew after gate", 61, () -> x.tick(0, 0, 0));
    }

    private static void askAll(MovedRegisters x) {
        x.gates();
        x.sound();
        x.period();
        x.least();
        x.shared();
        x.weight(1, 1);
        x.delay(1, 1);
        x.label(1);
        x.registers(-1, 0);
        x.held(-1, 0, 0);
    }

    /** Promise 17. */
    private void restart() {
        MovedRegisters x = new MovedRegisters();
        x.wire(-1, -1, 0, 1);
        x.hold(-1, 0, 0, 1);
        due.same("17: begins", 61, () -> x.tick(2, 0, 0));
        due.same("17: goes on", 62, () -> x.tick(0, 0, 0));
        x.restart();
        due.same("17: begins anew", 61, () -> x.tick(2, 0, 0));
        x.restart();
        x.restart();
        due.same("17: begins anew", 61, () -> x.tick(2, 0, 0));
        x.gate(SAME, 0);
        due.same("17: not sound", DONE, () -> restart(x));
        due.same("17: the values stay", 1, () -> x.held(-1, 0, 0));
    }
}
