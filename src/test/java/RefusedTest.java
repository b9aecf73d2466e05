import java.util.Arrays;

/**
 * "A call that throws changes nothing; the exceptions are looked at in the order of the throws clause."
 * Of two circuits made alike one is asked for what it refuses; whatever is called then, both answer alike.
 */
public final class RefusedTest extends Bench {
    private static final int[] FAR = {Integer.MIN_VALUE, Integer.MAX_VALUE};

    private RefusedTest() {
        super("RefusedTest");
    }

    public static void main(String[] args) {
        RefusedTest test = new RefusedTest();
        test.gate();
        test.wire();
        test.hold();
        test.asking();
        test.retime();
        test.tick();
        test.notSound();
        test.whichComesFirst();
        test.retimeThatAnswersNought();
        test.askingChangesNothing();
        test.changedAfterARefusal();
        test.due.end();
    }

    /**
     * In the middle of a run, with values that are known and labels that are not 0: 1 is ODD of -1 and itself,
     * 2 AND of -2 and 1. Its circle lets gate 1 be moved alone.
     */
    private static MovedRegisters running() {
        MovedRegisters x = new MovedRegisters();
        x.gate(ODD, 3);
        x.gate(AND, 4);
        x.wire(-1, 1, 0, 1);
        x.wire(1, 1, 1, 1);
        x.wire(1, 2, 0, 0);
        x.wire(-2, 2, 1, 1);
        x.wire(2, -1, 0, 2);
        x.wire(-3, -2, 0, 4);
        holdAll(x, 1, 0, 1);
        holdAll(x, 1, 1, 0);
        holdAll(x, 2, 1, 1);
        holdAll(x, -1, 0, 1, 0);
        holdAll(x, -2, 0, 1, 0, 2, 1);
        x.retime(4);
        ticks(x, 2);
        return x;
    }

    /** There is no thirteenth gate. */
    private static MovedRegisters full() {
        MovedRegisters x = row(12, NOT);
        x.retime(2);
        for (int number : new int[] {1, 2, 3, 5, 7, 9, 11}) {
            x.hold(number, 0, 0, number % 4 / 2);
        }
        ticks(x, 3);
        return x;
    }

    /** The circuit of running, with a gate that has no wires. */
    private static MovedRegisters broken() {
        MovedRegisters x = running();
        x.gate(NOT, 2);
        return x;
    }

    private void gate() {
        for (int wrong : new int[] {-1, 5}) {
            unchanged("2: kind", BAD_ARGUMENT, RefusedTest::running, "gate", wrong, 0);
        }
        for (int wrong : new int[] {-1, 51}) {
            unchanged("2: delay", BAD_ARGUMENT, RefusedTest::running, "gate", 0, wrong);
        }
        unchanged("2: full", FULL, RefusedTest::full, "gate", 0, 0);
    }

    private void wire() {
        for (int none : new int[] {-4, 0, 3}) {
            unchanged("3: source", NO_ELEMENT, RefusedTest::running, "wire", none, 1, 0, 0);
            unchanged("3: sink", NO_ELEMENT, RefusedTest::running, "wire", -1, none, 0, 0);
        }
        for (int wrong : new int[] {-1, 2}) {
            unchanged("3: pin of a gate", BAD_ARGUMENT, RefusedTest::running, "wire", -1, 1, wrong, 0);
        }
        for (int wrong : new int[] {-1, 1}) {
            unchanged("3: pin of an output", BAD_ARGUMENT, RefusedTest::running, "wire", -1, -3, wrong, 0);
            unchanged("3: pin of NOT", BAD_ARGUMENT, RefusedTest::full, "wire", -1, 12, wrong, 0);
        }
        for (int wrong : new int[] {-1, 5}) {
            unchanged("3: registers", BAD_ARGUMENT, RefusedTest::running, "wire", -1, 1, 0, wrong);
            unchanged("3: registers", BAD_ARGUMENT, RefusedTest::running, "wire", -1, -3, 0, wrong);
        }
    }

    private void hold() {
        for (int none : new int[] {-4, -3, 0, 3}) {
            unchanged("4: sink", NO_ELEMENT, RefusedTest::running, "hold", none, 0, 0, 0);
        }
        for (int wrong : new int[] {-1, 2}) {
            unchanged("4: pin of a gate", NO_ELEMENT, RefusedTest::running, "hold", 1, wrong, 0, 0);
        }
        for (int wrong : new int[] {-1, 1}) {
            unchanged("4: pin of an output", NO_ELEMENT, RefusedTest::running, "hold", -2, wrong, 0, 0);
        }
        for (int wrong : new int[] {-1, 4}) {
            unchanged("4: register", NO_ELEMENT, RefusedTest::running, "hold", -2, 0, wrong, 0);
        }
        for (int wrong : new int[] {-1, 3}) {
            unchanged("4: value", BAD_ARGUMENT, RefusedTest::running, "hold", -2, 0, 3, wrong);
        }
    }

    private void asking() {
        for (int none : new int[] {-4, -3, 0, 3}) {
            unchanged("5: sink", NO_ELEMENT, RefusedTest::running, "held", none, 0, 0);
            unchanged("6: sink", NO_ELEMENT, RefusedTest::running, "registers", none, 0);
            unchanged("10: from", NO_ELEMENT, RefusedTest::running, "weight", none, 1);
            unchanged("10: to", NO_ELEMENT, RefusedTest::running, "weight", 1, none);
            unchanged("11: from", NO_ELEMENT, RefusedTest::running, "delay", none, 1);
            unchanged("11: to", NO_ELEMENT, RefusedTest::running, "delay", 1, none);
            unchanged("15: gate", NO_ELEMENT, RefusedTest::running, "label", none);
        }
        unchanged("5: register", NO_ELEMENT, RefusedTest::running, "held", -2, 0, 4);
        unchanged("5: pin", NO_ELEMENT, RefusedTest::running, "held", -2, 1, 0);
        unchanged("6: pin", NO_ELEMENT, RefusedTest::running, "registers", 1, 2);
    }

    private void retime() {
        for (int wrong : new int[] {-1, 601}) {
            unchanged("14: c", BAD_ARGUMENT, RefusedTest::running, "retime", wrong);
            unchanged("14: c", BAD_ARGUMENT, RefusedTest::full, "retime", wrong);
        }
    }

    private void tick() {
        for (int wrong : new int[] {-1, 3}) {
            unchanged("16: a", BAD_ARGUMENT, RefusedTest::running, "tick", wrong, 0, 0);
            unchanged("16: b", BAD_ARGUMENT, RefusedTest::running, "tick", 0, wrong, 0);
            unchanged("16: c", BAD_ARGUMENT, RefusedTest::running, "tick", 0, 0, wrong);
        }
    }

    /** "IllegalStateException: the circuit is not SOUND", in every way in which it can fail to be that. */
    private void notSound() {
        Maker noSource = () -> {
            MovedRegisters x = broken();
            x.wire(-1, 3, 0, 1);
            return x;
        };
        Maker noPin = () -> {
            MovedRegisters x = broken();
            x.wire(3, -3, 0, 1);
            return x;
        };
        Maker circle = () -> {
            MovedRegisters x = broken();
            x.wire(3, 3, 0, 0);
            return x;
        };
        for (Maker maker : new Maker[] {RefusedTest::broken, noSource, noPin, circle}) {
            unchanged("9: not sound", BAD_STATE, maker, "period");
            unchanged("10: not sound", BAD_STATE, maker, "weight", 1, 2);
            unchanged("11: not sound", BAD_STATE, maker, "delay", 1, 2);
            unchanged("12: not sound", BAD_STATE, maker, "least");
            unchanged("13: not sound", BAD_STATE, maker, "shared");
            unchanged("14: not sound", BAD_STATE, maker, "retime", 600);
            unchanged("16: not sound", BAD_STATE, maker, "tick", 0, 0, 0);
        }
    }

    /** For every call with two exceptions in its throws clause: both are due, and the first one comes. */
    private void whichComesFirst() {
        for (int wrong : new int[] {-1, 5, FAR[0], FAR[1]}) {
            unchanged("2: kind before full", BAD_ARGUMENT, RefusedTest::full, "gate", wrong, 0);
        }
        for (int wrong : new int[] {-1, 51, FAR[0], FAR[1]}) {
            unchanged("2: delay before full", BAD_ARGUMENT, RefusedTest::full, "gate", 0, wrong);
        }
        for (int none : new int[] {-4, 0, 3, FAR[0], FAR[1]}) {
            unchanged("3: source before pin", NO_ELEMENT, RefusedTest::running, "wire", none, 1, 2, 0);
            unchanged("3: source before registers", NO_ELEMENT, RefusedTest::running, "wire", none, 1, 0, 5);
            unchanged("3: sink before pin", NO_ELEMENT, RefusedTest::running, "wire", 1, none, 2, 0);
            unchanged("3: sink before registers", NO_ELEMENT, RefusedTest::running, "wire", 1, none, 0, -1);
            unchanged("4: sink before value", NO_ELEMENT, RefusedTest::running, "hold", none, 0, 0, 3);
            unchanged("10: from before not sound", NO_ELEMENT, RefusedTest::broken, "weight", beyond(none), 1);
            unchanged("10: to before not sound", NO_ELEMENT, RefusedTest::broken, "weight", 1, beyond(none));
            unchanged("11: from before not sound", NO_ELEMENT, RefusedTest::broken, "delay", beyond(none), 1);
            unchanged("11: to before not sound", NO_ELEMENT, RefusedTest::broken, "delay", 1, beyond(none));
        }
        unchanged("4: pin before value", NO_ELEMENT, RefusedTest::running, "hold", 1, 2, 0, 3);
        unchanged("4: no wire before value", NO_ELEMENT, RefusedTest::running, "hold", -3, 0, 0, -1);
        unchanged("4: register before value", NO_ELEMENT, RefusedTest::running, "hold", -2, 0, 4, 3);
        for (int wrong : new int[] {-1, 601, FAR[0], FAR[1]}) {
            unchanged("14: not sound before c", BAD_STATE, RefusedTest::broken, "retime", wrong);
        }
        for (int wrong : new int[] {-1, 3, FAR[0], FAR[1]}) {
            unchanged("16: not sound before a", BAD_STATE, RefusedTest::broken, "tick", wrong, 0, 0);
            unchanged("16: not sound before b", BAD_STATE, RefusedTest::broken, "tick", 0, wrong, 0);
            unchanged("16: not sound before c", BAD_STATE, RefusedTest::broken, "tick", 0, 0, wrong);
        }
    }

    /** The broken circuit has a gate 3. */
    private static int beyond(int none) {
        return none == 3 ? 4 : none;
    }

    /** Promise 14: "0, changing nothing, when there is no such labelling (in the second case: no forward one)". */
    private void retimeThatAnswersNought() {
        unchanged("14: no labelling", "0", RefusedTest::running, "retime", 3);
        unchanged("14: none for 0", "0", RefusedTest::full, "retime", 0);
        Maker conflict = () -> {
            MovedRegisters x = chain(4, 4);
            x.wire(-1, 1, 0, 0);
            x.wire(2, -1, 0, 2);
            x.wire(2, -2, 0, 1);
            holdAll(x, -1, 0, 0, 1);
            holdAll(x, -2, 0, 0);
            x.retime(8);
            ticks(x, 1);
            return x;
        };
        unchanged("14: a conflict, and no forward one", "0", conflict, "retime", 4);
    }

    /** The calls that are no calls of gate, wire, hold, retime, tick and restart, where they are not refused. */
    private void askingChangesNothing() {
        unchanged("5: held", "2", RefusedTest::running, "held", -2, 0, 2);
        unchanged("6: registers", "4", RefusedTest::running, "registers", -2, 0);
        unchanged("7: gates", "2", RefusedTest::running, "gates");
        unchanged("8: sound", "true", RefusedTest::running, "sound");
        unchanged("8: sound", "false", RefusedTest::broken, "sound");
        unchanged("9: period", "4", RefusedTest::running, "period");
        unchanged("10: weight", "1", RefusedTest::running, "weight", 1, 2);
        unchanged("11: delay", "7", RefusedTest::running, "delay", 1, 2);
        unchanged("12: least", "4", RefusedTest::running, "least");
        unchanged("12: least below the period", "1", RefusedTest::full, "least");
        unchanged("13: shared", "10", RefusedTest::running, "shared");
        unchanged("15: label", "2", RefusedTest::running, "label", 2);
    }

    /** That this test can see a change: each call that is not refused changes what is shown or ticked. */
    private void changedAfterARefusal() {
        changed(RefusedTest::running, "gate", 0, 0);
        changed(RefusedTest::running, "wire", -1, -3, 0, 0);
        changed(RefusedTest::running, "hold", -2, 0, 0, 0);
        for (Maker maker : new Maker[] {RefusedTest::running, RefusedTest::full}) {
            changed(maker, "retime", 600);
            changed(maker, "tick", 0, 0, 0);
            changed(maker, "restart");
        }
    }

    private void changed(Maker maker, String name, int... at) {
        MovedRegisters x = maker.make();
        call(x, name, at);
        due.isTrue("a change by " + name + " is seen", !later(x).equals(later(maker.make())));
    }

    /** Refused, or answered, but with nothing changed. */
    private void unchanged(String what, String want, Maker maker, String name, int... at) {
        MovedRegisters asked = maker.make();
        asks(what, want, asked, name, at);
        String told = what + ": what is shown after " + name + Arrays.toString(at);
        due.same(told, later(maker.make()), () -> later(asked));
    }

    /** What is shown now, how the run goes on, how it begins, and what can be built and moved from here on. */
    private static String later(MovedRegisters x) {
        StringBuilder text = new StringBuilder(shows(x));
        text.append("\nrun ").append(ticks(x, 4));
        x.restart();
        text.append("\nanew ").append(ticks(x, 4));
        text.append("\ngate ").append(Due.outcome(() -> x.gate(SAME, 1)));
        if (!x.sound()) {
            mend(x);
        }
        text.append("\nretime ").append(Due.outcome(() -> x.retime(60)));
        text.append('\n').append(shows(x));
        return text.append("\nrun ").append(ticks(x, 4)).toString();
    }

    /** Gates 1 and 2 have all their wires; each gate made later becomes a circle of its own. */
    private static void mend(MovedRegisters x) {
        int gates = x.gates();
        for (int number = 3; number <= gates; number++) {
            x.wire(number, number, 0, 1);
        }
    }
}
