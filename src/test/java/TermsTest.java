/** The edges of what the document's section "Terms" says: SOUND, PATH, PERIOD, LABELLING, MOVES and RUN. */
public final class TermsTest extends Bench {
    private static final String[] KINDS = {"SAME", "NOT", "AND", "OR", "ODD"};

    private TermsTest() {
        super("TermsTest");
    }

    public static void main(String[] args) {
        TermsTest test = new TermsTest();
        test.oneSourceForEverySink();
        test.manyWiresFromAGate();
        test.soundWithoutGates();
        test.everyPinHasAWire();
        test.everyGateIsASource();
        test.circleOfOneGate();
        test.circleOfTwoGates();
        test.circleOfTwelveGates();
        test.circleBesideAnother();
        test.circleOverOutputAndInput();
        test.noGates();
        test.oneGateAlone();
        test.longestPath();
        test.noPath();
        test.leastWeight();
        test.labelsUpToSix();
        test.labelsAboveSixWouldBeNeeded();
        test.labelsDownToMinusSix();
        test.forwardDownToMinusSix();
        test.wiresUpToTwenty();
        test.wiresForcedBeyondTwenty();
        test.wiresDownToNone();
        test.outsideHasNoLabel();
        test.greatestForEachGate();
        test.greatestForward();
        test.movesBackward();
        test.conflictOfThree();
        test.conflictAtEachMove();
        test.conflictOnTheWay();
        test.conflictAtPinsOfOneGate();
        test.movesForwardNeedEveryPin();
        test.movesWhateverTheNumbers();
        test.movesOneWayAlone();
        test.beginsTheRunAnew();
        test.runChangesNoValues();
        test.labelsOfTheLatestRetime();
        test.outputsWithoutWires();
        test.sharedRegisters();
        test.fiveHundredAndTwelveCalls();
        test.due.end();
    }

    /** "a sink has at most one wire, a source any number": an input may be the source of all 27 wires. */
    private void oneSourceForEverySink() {
        MovedRegisters x = new MovedRegisters();
        for (int number = 1; number <= 12; number++) {
            x.gate(AND, 0);
        }
        for (int wire = 0; wire < 27; wire++) {
            x.wire(-2, sink(wire), wire < 24 ? wire % 2 : 0, 4);
            x.hold(sink(wire), wire < 24 ? wire % 2 : 0, wire % 4, wire % 3);
        }
        for (int wire = 0; wire < 27; wire++) {
            asks("registers of each wire", 4, x, "registers", sink(wire), wire < 24 ? wire % 2 : 0);
            asks("each wire has its own", wire % 3, x, "held", sink(wire), wire < 24 ? wire % 2 : 0, wire % 4);
            asks("and others besides", 2, x, "held", sink(wire), wire < 24 ? wire % 2 : 0, (wire + 1) % 4);
        }
    }

    private static int sink(int wire) {
        return wire < 24 ? wire / 2 + 1 : wire - 27;
    }

    /** A move backward over a gate with wires to itself, to eleven gates and to all outputs. */
    private void manyWiresFromAGate() {
        MovedRegisters x = many();
        asks("shared: 1 from each gate", 12, x, "shared");
        asks("over all at once", 2, x, "retime", 600);
        due.same("labels", "1 6 6 6 6 6 6 6 6 6 6 6", () -> labels(x));
        due.same("the new one at pin 0", "1", () -> all(x, 1, 0));
        due.same("the new one at pin 1", "1", () -> all(x, 1, 1));
        due.same("taken away behind six new ones", "1 1 1 1 1 1", () -> all(x, 12, 0));
        due.same("taken away", "", () -> all(x, -3, 0));
        for (int sink = -3; sink <= 12; sink++) {
            if (sink != 0) {
                MovedRegisters other = many();
                other.hold(sink, sink == 1 ? 1 : 0, 0, 0);
                asks("one of fifteen tells another value", 1, other, "retime", 600);
            }
        }
    }

    private static MovedRegisters many() {
        MovedRegisters x = new MovedRegisters();
        for (int number = 1; number <= 12; number++) {
            x.gate(AND, 1);
            x.wire(number, number, 1, 1);
            x.hold(number, 1, 0, 1);
            x.wire(number == 1 ? -1 : 1, number, 0, number == 1 ? 0 : 1);
            if (number > 1) {
                x.hold(number, 0, 0, 1);
            }
        }
        for (int output = -3; output <= -1; output++) {
            x.wire(1, output, 0, 1);
            x.hold(output, 0, 0, 1);
        }
        return x;
    }

    private void soundWithoutGates() {
        MovedRegisters x = new MovedRegisters();
        asks("8: nothing", true, x, "sound");
        x.wire(-1, -1, 0, 0);
        asks("8: an output of the input with its number", true, x, "sound");
        x.wire(-1, -3, 0, 4);
        asks("8: outputs without wires are no pins", true, x, "sound");
    }

    /** "every pin has a wire". */
    private void everyPinHasAWire() {
        for (int kind = SAME; kind <= ODD; kind++) {
            int pins = kind >= AND ? 2 : 1;
            for (int missing = 0; missing < pins; missing++) {
                MovedRegisters x = new MovedRegisters();
                x.gate(kind, 0);
                x.wire(1, -2, 0, 0);
                if (pins == 2) {
                    x.wire(-1, 1, 1 - missing, 0);
                }
                asks("8: " + KINDS[kind] + " without pin " + missing, false, x, "sound");
                x.wire(-1, 1, missing, 0);
                asks("8: " + KINDS[kind] + " with all pins", true, x, "sound");
            }
        }
    }

    /** "every gate is the source of a wire". */
    private void everyGateIsASource() {
        for (int lonely = 1; lonely <= 12; lonely++) {
            MovedRegisters x = new MovedRegisters();
            for (int number = 1; number <= 12; number++) {
                x.gate(SAME, 1);
                x.wire(number, number, 0, 1);
            }
            asks("8: each its own source alone", true, x, "sound");
            x.wire(-1, lonely, 0, 1);
            asks("8: gate " + lonely + " is no source", false, x, "sound");
            x.wire(lonely, -1, 0, 0);
            asks("8: gate " + lonely + " has an output", true, x, "sound");
            x.wire(-3, -1, 0, 0);
            asks("8: the output was given away", false, x, "sound");
        }
    }

    /** "no gate can be come back to by wires without registers". */
    private void circleOfOneGate() {
        for (int kind = SAME; kind <= ODD; kind++) {
            for (int pin = 0; pin < (kind >= AND ? 2 : 1); pin++) {
                MovedRegisters x = oneGate(kind, 0, 0);
                x.wire(1, 1, pin, 0);
                asks("8: " + KINDS[kind] + " behind itself", false, x, "sound");
                x.wire(1, 1, pin, 1);
                asks("8: " + KINDS[kind] + " behind a register behind itself", true, x, "sound");
            }
        }
    }

    private void circleOfTwoGates() {
        for (int there = 0; there <= 1; there++) {
            for (int back = 0; back <= 1; back++) {
                MovedRegisters x = new MovedRegisters();
                x.gate(SAME, 0);
                x.gate(NOT, 0);
                x.wire(1, 2, 0, there);
                x.wire(2, 1, 0, back);
                asks("8: " + there + " there, " + back + " back", there + back > 0, x, "sound");
            }
        }
    }

    private void circleOfTwelveGates() {
        MovedRegisters x = ring(0);
        asks("8: no register at all", false, x, "sound");
        for (int place = 1; place <= 12; place++) {
            int next = place % 12 + 1;
            x.wire(place, next, 0, 1);
            asks("8: one register behind gate " + place, true, x, "sound");
            x.wire(place, next, 0, 0);
            asks("8: none behind gate " + place, false, x, "sound");
        }
    }

    /** One circle with registers does not mend another without. */
    private void circleBesideAnother() {
        MovedRegisters x = new MovedRegisters();
        x.gate(AND, 1);
        x.gate(SAME, 1);
        x.gate(SAME, 1);
        x.wire(2, 1, 0, 1);
        x.wire(1, 2, 0, 0);
        x.wire(3, 1, 1, 0);
        x.wire(1, 3, 0, 0);
        asks("8: the second circle has none", false, x, "sound");
        x.wire(1, 3, 0, 1);
        asks("8: both have one", true, x, "sound");
        x.wire(2, 1, 0, 0);
        asks("8: the first circle has none", false, x, "sound");
    }

    /** An output is not joined to the input of its number. */
    private void circleOverOutputAndInput() {
        for (int port = -3; port <= -1; port++) {
            MovedRegisters x = new MovedRegisters();
            x.gate(NOT, 7);
            x.gate(NOT, 8);
            x.wire(port, 1, 0, 0);
            x.wire(1, port, 0, 0);
            x.wire(port, 2, 0, 0);
            x.wire(2, port == -1 ? -2 : -1, 0, 0);
            asks("8: no circle", true, x, "sound");
            asks("9: no path", 8, x, "period");
            asks("10: no path", -1, x, "weight", 1, 2);
            asks("11: no path", -1, x, "delay", 1, 2);
        }
    }

    /** "The PERIOD is .. 0 when there are no gates." */
    private void noGates() {
        for (int registers = 0; registers <= 4; registers += 4) {
            MovedRegisters x = new MovedRegisters();
            asks("9: nothing", 0, x, "period");
            x.wire(-1, -1, 0, registers);
            asks("9: a wire alone", 0, x, "period");
            asks("12: a wire alone", 0, x, "least");
            asks("13: a wire alone", registers, x, "shared");
            asks("14: a wire alone", 2, x, "retime", 0);
            asks("14: nothing moves", registers, x, "registers", -1, 0);
        }
    }

    /** "one gate alone is a path of weight 0". */
    private void oneGateAlone() {
        for (int delay : new int[] {0, 1, 50}) {
            for (int registers : new int[] {0, 4}) {
                MovedRegisters x = chain(delay);
                x.wire(-1, 1, 0, registers);
                x.wire(1, -1, 0, registers);
                asks("9: one gate", delay, x, "period");
                asks("10: to itself", 0, x, "weight", 1, 1);
                asks("11: to itself", delay, x, "delay", 1, 1);
                asks("12: not below its delay", delay, x, "least");
                x.wire(1, 1, 0, 1);
                asks("10: not round the circle", 0, x, "weight", 1, 1);
                asks("11: not round the circle", delay, x, "delay", 1, 1);
                asks("9: not round the circle", delay, x, "period");
            }
        }
    }

    /** "its delay the sum of those of all its gates, the first and the last too". */
    private void longestPath() {
        MovedRegisters x = evenChain(12, 50);
        asks("9: twelve gates of 50", 600, x, "period");
        asks("11: twelve gates of 50", 600, x, "delay", 1, 12);
        asks("11: two of them", 100, x, "delay", 11, 12);
        for (int number = 2; number <= 12; number++) {
            x.wire(number - 1, number, 0, 4);
        }
        asks("9: each behind registers", 50, x, "period");
        asks("10: four on each wire", 44, x, "weight", 1, 12);
        asks("11: as before", 600, x, "delay", 1, 12);
        x.wire(6, 7, 0, 0);
        asks("9: two without a register between", 100, x, "period");
        x.wire(6, 7, 0, 1);
        asks("9: one register is enough", 50, x, "period");
    }

    /** "NONE when there is no path." */
    private void noPath() {
        MovedRegisters x = evenChain(12, 1);
        for (int from = 1; from <= 12; from++) {
            for (int to = 1; to < from; to++) {
                asks("10: against the wires", -1, x, "weight", from, to);
                asks("11: against the wires", -1, x, "delay", from, to);
            }
        }
        x.wire(12, 1, 0, 4);
        asks("10: now there is one", 4, x, "weight", 12, 1);
        asks("11: now there is one", 2, x, "delay", 12, 1);
        asks("10: round to the one before", 4, x, "weight", 12, 11);
        asks("11: round to the one before", 12, x, "delay", 12, 11);
    }

    /** "The greatest delay of a path of that least weight", not of a heavier one; nor the least. */
    private void leastWeight() {
        for (int weight = 0; weight <= 2; weight++) {
            MovedRegisters x = new MovedRegisters();
            x.gate(SAME, 1);
            x.gate(SAME, 9);
            x.gate(AND, 2);
            x.wire(-1, 1, 0, 0);
            x.wire(1, 2, 0, 0);
            x.wire(2, 3, 0, weight);
            x.wire(1, 3, 1, 1);
            x.wire(3, -1, 0, 0);
            asks("10: straight or over gate 2", Math.min(weight, 1), x, "weight", 1, 3);
            asks("11: over gate 2 while it is no heavier", weight <= 1 ? 12 : 3, x, "delay", 1, 3);
        }
        for (int slow = 2; slow <= 3; slow++) {
            MovedRegisters x = new MovedRegisters();
            x.gate(SAME, 1);
            x.gate(SAME, slow == 2 ? 20 : 10);
            x.gate(SAME, slow == 3 ? 20 : 10);
            x.gate(OR, 2);
            x.wire(-1, 1, 0, 0);
            x.wire(1, 2, 0, 0);
            x.wire(1, 3, 0, 1);
            x.wire(2, 4, 0, 1);
            x.wire(3, 4, 1, 0);
            x.wire(4, -1, 0, 0);
            asks("10: either way", 1, x, "weight", 1, 4);
            asks("11: over gate " + slow, 23, x, "delay", 1, 4);
        }
    }

    /** Labels end at 6 though the registers would do for more. */
    private void labelsUpToSix() {
        MovedRegisters x = withTwenty();
        x.wire(-1, 2, 0, 0);
        x.wire(-1, 1, 0, 0);
        asks("14: back again", 2, x, "retime", 600);
        due.same("15: 6 of 20", "6 0", () -> labels(x));
        asks("6: fourteen are left", 14, x, "registers", -1, 0);
        asks("6: six came", 6, x, "registers", 1, 0);
        MovedRegisters free = new MovedRegisters();
        free.gate(SAME, 1);
        free.wire(1, 1, 0, 1);
        asks("14: a circle on its own", 2, free, "retime", 1);
        due.same("15: free up to 6", "6", () -> labels(free));
    }

    /** Gate 1, with 20 registers behind it to output -1, and gate 2 between it and output -2; delays of 5. */
    private static MovedRegisters withTwenty() {
        MovedRegisters x = new MovedRegisters();
        x.gate(SAME, 5);
        x.gate(SAME, 5);
        x.wire(2, -2, 0, 0);
        x.wire(1, -1, 0, 4);
        for (int registers = 5; registers <= 20; registers++) {
            oneMore(x);
            x.retime(5);
        }
        return x;
    }

    /** One register in front of gate 1, which must be moved over it to have the two gates apart. */
    private static void oneMore(MovedRegisters x) {
        x.wire(-1, 1, 0, 1);
        x.wire(1, 2, 0, 0);
    }

    /** Where a label must be above 6 there is no labelling, as with one that must be below -6. */
    private void labelsAboveSixWouldBeNeeded() {
        MovedRegisters x = twentyBehind(7);
        asks("12: seven gates apart", 5, x, "least");
        asks("14: seven gates apart", 2, x, "retime", 5);
        due.same("15: up to 6 at the last gate of the row", "6 0 0 1 2 3 4 5", () -> labels(x));
        asks("6: fourteen are left", 14, x, "registers", -1, 0);
        asks("12: eight not", 10, twentyBehind(8), "least");
        asks("14: eight would need 7", 0, twentyBehind(8), "retime", 5);
        asks("14: two together need less", 2, twentyBehind(8), "retime", 10);
    }

    /** A row of gates of delay 5, the last of which is gate 1, with no registers but 20 behind it. */
    private static MovedRegisters twentyBehind(int gates) {
        MovedRegisters x = withTwenty();
        x.wire(-2, 2, 0, 0);
        int last = -1;
        for (int made = 1; made < gates; made++) {
            int number = x.gate(SAME, 5);
            x.wire(last, number, 0, 0);
            last = number;
        }
        x.wire(last, 1, 0, 0);
        return x;
    }

    private void labelsDownToMinusSix() {
        asks("12: seven gates apart", 1, eightInFront(7), "least");
        asks("12: eight not", 2, eightInFront(8), "least");
        MovedRegisters x = eightInFront(7);
        asks("14: seven gates apart", 2, x, "retime", 1);
        due.same("15: down to -6", "-6 -5 -4 -3 -2 -1 0", () -> labels(x));
        asks("14: eight would need -7", 0, eightInFront(8), "retime", 1);
    }

    /** A chain of gates of delay 1, with eight registers in front of it. */
    private static MovedRegisters eightInFront(int gates) {
        MovedRegisters x = evenChain(gates, 1);
        x.wire(-1, 1, 0, 4);
        x.wire(gates, -1, 0, 4);
        x.retime(600);
        return x;
    }

    private void forwardDownToMinusSix() {
        MovedRegisters x = withQuarrel(eightInFront(7));
        asks("14: forward", 1, x, "retime", 1);
        due.same("15: down to -6", "-6 -5 -4 -3 -2 -1 0 0", () -> labels(x));
        asks("14: eight would need -7", 0, withQuarrel(eightInFront(8)), "retime", 1);
        asks("14: two together need -3 alone", 1, withQuarrel(eightInFront(8)), "retime", 2);
    }

    /** One gate more, which can't be moved over backward for the values behind it differ. */
    private static MovedRegisters withQuarrel(MovedRegisters x) {
        int gate = x.gate(SAME, 1);
        x.wire(-2, gate, 0, 0);
        x.wire(gate, -2, 0, 1);
        x.wire(gate, -3, 0, 1);
        x.hold(-2, 0, 0, 0);
        x.hold(-3, 0, 0, 1);
        return x;
    }

    /** "LEGAL if no wire has fewer than 0 or more than 20 then". */
    private void wiresUpToTwenty() {
        MovedRegisters x = new MovedRegisters();
        x.gate(AND, 1);
        x.wire(-1, 1, 0, 3);
        x.wire(1, 1, 1, 1);
        for (int registers : new int[] {9, 15}) {
            x.retime(600);
            asks("6: six more", registers, x, "registers", 1, 0);
            due.same("15: six more", "6", () -> labels(x));
        }
        asks("14: up to 20", 2, x, "retime", 600);
        asks("6: twenty", 20, x, "registers", 1, 0);
        due.same("15: not 21", "5", () -> labels(x));
        asks("5: the last register", 2, x, "held", 1, 0, 19);
        asks("5: no register", NO_ELEMENT, x, "held", 1, 0, 20);
        asks("4: the last register", DONE, x, "hold", 1, 0, 19, 1);
        asks("4: no register", NO_ELEMENT, x, "hold", 1, 0, 20, 1);
        asks("5: the last register", 1, x, "held", 1, 0, 19);
        asks("14: nothing more can come", 2, x, "retime", 600);
        due.same("15: nothing more can come", "0", () -> labels(x));
    }

    /** Where a label must be below 0 and 20 registers forbid that, there is no labelling. */
    private void wiresForcedBeyondTwenty() {
        MovedRegisters x = withTwenty();
        asks("6: twenty", 20, x, "registers", -1, 0);
        due.same("15: the last of sixteen moves", "-1 0", () -> labels(x));
        oneMore(x);
        asks("12: not apart", 10, x, "least");
        asks("14: 21 would be needed", 0, x, "retime", 5);
        asks("14: together they may stay", 2, x, "retime", 10);
        asks("6: twenty", 20, x, "registers", -1, 0);
        x.hold(-1, 0, 0, 0);
        // With gate 2 elsewhere, the one register to output -3 lets gate 1 be moved over once, backward.
        x.wire(-1, 2, 0, 0);
        x.wire(1, -3, 0, 1);
        asks("14: one register less", 2, x, "retime", 10);
        asks("6: nineteen", 19, x, "registers", -1, 0);
        oneMore(x);
        asks("12: apart", 5, x, "least");
        asks("14: 20 are enough", 2, x, "retime", 5);
        asks("6: twenty", 20, x, "registers", -1, 0);
        asks("5: the oldest is nearest the sink", 0, x, "held", -1, 0, 0);
    }

    private void wiresDownToNone() {
        for (int registers = 0; registers <= 4; registers++) {
            MovedRegisters x = evenChain(5, 1);
            x.wire(-1, 1, 0, registers);
            asks("12: " + registers + " to set five gates apart", (5 + registers) / (registers + 1), x, "least");
            asks("14: apart", registers == 4 ? 2 : 0, x, "retime", 1);
            asks("6: all are gone, or all are left", registers == 4 ? 0 : registers, x, "registers", 1, 0);
        }
    }

    /** "inputs and outputs have the label 0". */
    private void outsideHasNoLabel() {
        MovedRegisters x = oneGate(SAME, 0, 2);
        x.wire(-3, -3, 0, 4);
        holdAll(x, -3, 0, 1, 0, 2, 1);
        asks("14: as far as output -1 has registers", 2, x, "retime", 1);
        due.same("15: 2", "2", () -> labels(x));
        due.same("5: from an input to an output nothing moves", "1 0 2 1", () -> all(x, -3, 0));
        asks("14: again", 2, x, "retime", 1);
        due.same("15: nothing more", "0", () -> labels(x));
    }

    /** "each gate has the greatest label that it has in any of these". */
    private void greatestForEachGate() {
        MovedRegisters x = chain(3, 3, 3);
        x.wire(1, 2, 0, 1);
        x.wire(3, -1, 0, 3);
        x.wire(1, -2, 0, 2);
        asks("14: each register as far back as it may", 2, x, "retime", 9);
        due.same("15: gate 1 is held at output -2", "2 3 3", () -> labels(x));
        due.same("6: registers", "2 2 0 0", () -> lengths(x));
        asks("14: apart", 2, x, "retime", 3);
        due.same("15: one of the two in front of gate 2 goes forward, and no other", "0 -1 0", () -> labels(x));
        due.same("6: registers", "2 1 1 0", () -> lengths(x));
    }

    /** "the greatest FORWARD one likewise among those without labels above 0". */
    private void greatestForward() {
        MovedRegisters x = withQuarrel(chain(2, 2));
        x.wire(2, -1, 0, 3);
        asks("14: nothing has to move", 1, x, "retime", 4);
        due.same("15: 0 at the most", "0 0 0", () -> labels(x));
        asks("6: nothing has moved", 3, x, "registers", -1, 0);
        asks("14: what has to move could go backward alone", 0, x, "retime", 2);
        x.wire(-1, 1, 0, 4);
        asks("14: now forward too", 1, x, "retime", 2);
        due.same("15: no further than it must", "-1 0 0", () -> labels(x));
        due.same("6: registers", "3 1 0 3", () -> lengths(x));
        x.hold(-3, 0, 0, 0);
        asks("14: no quarrel any more", 2, x, "retime", 2);
        due.same("15: above 0", "3 3 1", () -> labels(x));
    }

    /** Each kind with each two values behind it: a CONFLICT, or what comes to its pins. */
    private void movesBackward() {
        String[][] pins = {{"0", "1", "2"}, {"1", "0", "2"}, {"0,2", "1,1", "2,2"}, {"0,0", "1,2", "2,2"},
            {"0,0", "1,0", "2,2"}};
        for (int kind = SAME; kind <= ODD; kind++) {
            for (int first = 0; first <= 2; first++) {
                for (int second = 0; second <= 2; second++) {
                    MovedRegisters x = oneGate(kind, 0, 1);
                    x.wire(1, -3, 0, 1);
                    x.hold(-1, 0, 0, first);
                    x.hold(-3, 0, 0, second);
                    boolean conflict = first + second == 1;
                    asks(KINDS[kind] + " with " + first + " and " + second, conflict ? 1 : 2, x, "retime", 1);
                    String want = conflict ? (kind >= AND ? "," : "") : pins[kind][Math.min(first, second)];
                    due.same(KINDS[kind] + " with " + first + " and " + second, want, () -> atPins(x));
                    asks("behind it", conflict ? 1 : 0, x, "registers", -1, 0);
                    asks("behind it", conflict ? 1 : 0, x, "registers", -3, 0);
                }
            }
        }
    }

    private static String atPins(MovedRegisters x) {
        String second = Due.outcome(() -> all(x, 1, 1));
        return all(x, 1, 0) + (second.equals(NO_ELEMENT) ? "" : "," + second);
    }

    /** "if some of these held 0 and some 1": whatever a third one held, and wherever it is. */
    private void conflictOfThree() {
        for (int i = 0; i < 27; i++) {
            int[] values = {i % 3, i / 3 % 3, i / 9};
            MovedRegisters x = oneGate(NOT, 0, 0);
            boolean[] seen = new boolean[3];
            for (int output = -3; output <= -1; output++) {
                x.wire(1, output, 0, 1);
                x.hold(output, 0, 0, values[output + 3]);
                seen[values[output + 3]] = true;
            }
            boolean conflict = seen[0] && seen[1];
            asks("three values, " + i, conflict ? 1 : 2, x, "retime", 1);
            String want = conflict ? "" : seen[0] ? "1" : seen[1] ? "0" : "2";
            due.same("three values, " + i, want, () -> all(x, 1, 0));
        }
    }

    /** A CONFLICT at any of the moves over a gate, the last too, leaves none of them made. */
    private void conflictAtEachMove() {
        for (int move = 1; move <= 4; move++) {
            MovedRegisters x = oneGate(SAME, 0, 4);
            x.wire(1, -2, 0, 4);
            holdAll(x, -1, 0, 1, 1, 1, 1);
            holdAll(x, -2, 0, 1, 1, 1, 1);
            x.hold(-2, 0, 4 - move, 0);
            asks("a conflict at move " + move, 1, x, "retime", 1);
            due.same("labels", "0", () -> labels(x));
            due.same("all as before", "1 1 1 1", () -> all(x, -1, 0));
            asks("all as before", 0, x, "registers", 1, 0);
            x.hold(-2, 0, 4 - move, 1);
            asks("the same value", 2, x, "retime", 1);
            due.same("labels", "4", () -> labels(x));
            due.same("all moved", "1 1 1 1", () -> all(x, 1, 0));
        }
    }

    /** Values that differ only once they have been moved over other gates. */
    private void conflictOnTheWay() {
        for (int i = 0; i < 9; i++) {
            int first = i % 3;
            int second = i / 3;
            MovedRegisters x = new MovedRegisters();
            x.gate(SAME, 1);
            x.gate(NOT, 1);
            x.gate(SAME, 1);
            x.wire(-1, 1, 0, 0);
            x.wire(1, 2, 0, 0);
            x.wire(1, 3, 0, 0);
            x.wire(2, -1, 0, 1);
            x.wire(3, -2, 0, 1);
            x.hold(-1, 0, 0, first);
            x.hold(-2, 0, 0, second);
            boolean conflict = first < 2 && first == second;
            asks("NOT " + first + " and " + second, conflict ? 1 : 2, x, "retime", 2);
            due.same("labels", conflict ? "0 0 0" : "1 1 1", () -> labels(x));
            asks("behind the second", conflict ? 1 : 0, x, "registers", -1, 0);
            String want = conflict ? "" : String.valueOf(second < 2 ? second : first < 2 ? 1 - first : 2);
            due.same("in front of all", want, () -> all(x, 1, 0));
        }
    }

    /** A gate at both pins of another: what is given back to the two pins must agree. */
    private void conflictAtPinsOfOneGate() {
        String[] given = {"0 1 2", "0 1 2", "0 - 2"};
        for (int kind = AND; kind <= ODD; kind++) {
            StringBuilder got = new StringBuilder();
            for (int value = 0; value <= 2; value++) {
                MovedRegisters x = new MovedRegisters();
                x.gate(SAME, 1);
                x.gate(kind, 1);
                x.wire(-1, 1, 0, 0);
                x.wire(1, 2, 0, 0);
                x.wire(1, 2, 1, 0);
                x.wire(2, -1, 0, 1);
                x.hold(-1, 0, 0, value);
                int answer = x.retime(2);
                got.append(value == 0 ? "" : " ").append(answer == 1 ? "-" : all(x, 1, 0));
            }
            due.same("both pins of " + KINDS[kind], given[kind - AND], () -> got);
        }
    }

    /** "Forward over a gate, when each wire to its pins has a register". */
    private void movesForwardNeedEveryPin() {
        for (int first = 0; first <= 1; first++) {
            for (int second = 0; second <= 1; second++) {
                MovedRegisters x = oneGate(OR, 0, 0);
                x.gate(SAME, 1);
                x.wire(1, 2, 0, 0);
                x.wire(2, -1, 0, 0);
                x.wire(-1, 1, 0, first);
                x.wire(-2, 1, 1, second);
                boolean both = first + second == 2;
                asks("12: " + first + " and " + second, both ? 1 : 2, x, "least");
                asks("14: " + first + " and " + second, both ? 2 : 0, x, "retime", 1);
                asks("6: between", both ? 1 : 0, x, "registers", 2, 0);
            }
        }
    }

    /** "in any order in which they can be made": gates that must wait for others, whichever has the lower number. */
    private void movesWhateverTheNumbers() {
        for (int i = 0; i < 256; i++) {
            int[] places = {i % 4 + 1, i / 4 % 4 + 1, i / 16 % 4 + 1, i / 64 + 1};
            if ((1 << places[0] | 1 << places[1] | 1 << places[2] | 1 << places[3]) == 30) {
                moveThereAndBack(places);
            }
        }
    }

    /** Four gates NOT in a row, numbered as told; all registers are moved to its front, then apart. */
    private void moveThereAndBack(int[] row) {
        String told = "row " + java.util.Arrays.toString(row);
        MovedRegisters x = new MovedRegisters();
        for (int made = 0; made < 4; made++) {
            x.gate(NOT, 1);
        }
        x.wire(-1, row[0], 0, 0);
        for (int at = 1; at < 4; at++) {
            x.wire(row[at - 1], row[at], 0, 0);
        }
        x.wire(row[3], -1, 0, 4);
        holdAll(x, -1, 0, 0, 1, 1, 2);
        asks(told, 2, x, "retime", 4);
        due.same(told + ": labels", "4 4 4 4", () -> labels(x));
        due.same(told + ": over four times NOT", "0 1 1 2", () -> all(x, row[0], 0));
        asks(told, 2, x, "retime", 1);
        String apart = all(x, row[0], 0) + "/" + all(x, row[1], 0) + "/" + all(x, row[2], 0) + "/" + all(x, row[3], 0);
        due.same(told + ": one in front of each", "2/0/1/1", () -> apart);
        for (int at = 0; at < 4; at++) {
            asks(told + ": labels", at - 3, x, "label", row[at]);
        }
    }

    /** "over each with l below 0 there are -l moves forward": one that waits for its turn is not moved back meanwhile. */
    private void movesOneWayAlone() {
        MovedRegisters x = new MovedRegisters();
        for (int made = 0; made < 4; made++) {
            x.gate(SAME, 1);
        }
        x.wire(-1, 2, 0, 2);
        x.wire(2, 1, 0, 0);
        x.wire(1, 3, 0, 1);
        x.wire(3, 4, 0, 0);
        x.wire(4, -1, 0, 0);
        x.wire(1, -2, 0, 1);
        holdAll(x, 2, 0, 1, 0);
        holdAll(x, 3, 0, 0);
        holdAll(x, -2, 0, 1);
        asks("what differs behind gate 1 is no conflict", 2, x, "retime", 1);
        due.same("labels", "-1 -2 -1 0", () -> labels(x));
        due.same("one in front of each but gate 2", "0  1 0 ", () -> all(x, 1, 0) + " " + all(x, 2, 0) + " "
            + all(x, 3, 0) + " " + all(x, 4, 0) + " " + all(x, -1, 0));
        due.same("behind the one that was there", "1 1", () -> all(x, -2, 0));
    }

    /** "Every call of gate, wire and hold that does not throw, and a call of retime that answers above 0". */
    private void beginsTheRunAnew() {
        anew("hold of the value that is there", "done", "hold", -1, 0, 0, 1);
        anew("hold on another wire", "done", "hold", -2, 0, 0, 2);
        anew("wire to another output", "done", "wire", -1, -3, 0, 0);
        anew("retime that moves nothing, in a conflict", "1", "retime", 1);
        anew("restart", "done", "restart");
        MovedRegisters x = quarrelAfterTicks();
        x.hold(-2, 0, 0, 1);
        ticks(x, 3);
        x.wire(1, -2, 0, 0);
        ticks(x, 3);
        asks("retime that moves nothing", 2, x, "retime", 1);
        asks("the run begins anew", 1 + 4 * 0 + 48, x, "tick", 0, 0, 0);
    }

    private void anew(String what, String want, String name, int... at) {
        MovedRegisters x = quarrelAfterTicks();
        asks(what, want, x, name, at);
        due.same(what + ": the run begins anew", 1, () -> x.tick(0, 0, 0) & 3);
        due.same(what + ": and goes on", 0, () -> x.tick(0, 0, 0) & 3);
        due.same(what + ": and goes on", 0, () -> x.tick(0, 0, 0) & 3);
    }

    /** Output -1 begins with 1 and has 0 ever after; output -2 holds 0, so the gate can't be moved over. */
    private static MovedRegisters quarrelAfterTicks() {
        MovedRegisters x = oneGate(SAME, 0, 1);
        x.wire(1, -2, 0, 1);
        x.hold(-1, 0, 0, 1);
        x.hold(-2, 0, 0, 0);
        x.tick(0, 0, 0);
        x.tick(0, 0, 0);
        return x;
    }

    /** "a clocking of it that changes no values of its registers". */
    private void runChangesNoValues() {
        MovedRegisters x = oneGate(NOT, 0, 2);
        holdAll(x, -1, 0, 0, 1);
        asks("first tick", 60, x, "tick", 2, 2, 2);
        asks("second tick", 61, x, "tick", 2, 2, 2);
        asks("third tick", 62, x, "tick", 2, 2, 2);
        due.same("5: as they were", "0 1", () -> all(x, -1, 0));
        asks("14: moves the values of the circuit, not those of the run", 2, x, "retime", 1);
        due.same("5: moved", "1 0", () -> all(x, 1, 0));
        asks("first tick", 60, x, "tick", 2, 2, 2);
        asks("second tick", 61, x, "tick", 2, 2, 2);
        due.same("5: as they were", "1 0", () -> all(x, 1, 0));
    }

    /** Promise 15: "0 when there was none, or the gate came later". */
    private void labelsOfTheLatestRetime() {
        MovedRegisters x = withQuarrel(chain(2, 2));
        due.same("15: there was none", "0 0 0", () -> labels(x));
        asks("14: answers 0", 0, x, "retime", 1);
        due.same("15: there was none above 0", "0 0 0", () -> labels(x));
        x.wire(-1, 1, 0, 1);
        asks("14: answers 1", 1, x, "retime", 2);
        due.same("15: after 1", "-1 0 0", () -> labels(x));
        asks("14: answers 0", 0, x, "retime", 1);
        due.same("15: as before", "-1 0 0", () -> labels(x));
        asks("14: refused", BAD_ARGUMENT, x, "retime", 601);
        due.same("15: as before", "-1 0 0", () -> labels(x));
        asks("a gate comes later", 4, x, "gate", SAME, 1);
        due.same("15: as before, and 0", "-1 0 0 0", () -> labels(x));
        x.wire(4, 4, 0, 1);
        asks("14: answers 1", 1, x, "retime", 600);
        due.same("15: in place of the old ones", "0 0 0 0", () -> labels(x));
        x.hold(-2, 0, 0, 1);
        asks("14: answers 2", 2, x, "retime", 600);
        due.same("15: also the later gate", "1 0 1 6", () -> labels(x));
    }

    /** Promise 16: "3 for one without a wire", for each set of outputs. */
    private void outputsWithoutWires() {
        for (int set = 0; set < 8; set++) {
            MovedRegisters x = new MovedRegisters();
            int want = 0;
            for (int output = -3; output <= -1; output++) {
                boolean wired = (set >> -1 - output & 1) == 1;
                if (wired) {
                    x.wire(-1, output, 0, 0);
                }
                want = 4 * want + (wired ? 1 : 3);
            }
            asks("16: outputs " + set, want, x, "tick", 1, 0, 0);
        }
    }

    /** Promise 13: the greatest number on a wire from each source, once. */
    private void sharedRegisters() {
        MovedRegisters x = new MovedRegisters();
        asks("13: nothing", 0, x, "shared");
        for (int port = -3; port <= -1; port++) {
            x.wire(port, port, 0, 4);
        }
        asks("13: three inputs", 12, x, "shared");
        x.wire(-3, -2, 0, 3);
        asks("13: two wires from one input", 8, x, "shared");
        x.wire(-3, -1, 0, 4);
        asks("13: three wires from one input", 4, x, "shared");
        asks("13: twenty on one wire", 20 + 1 + 1, withOneMore(), "shared");
        asks("13: one on each wire of a row", 13, row(12, SAME), "shared");
    }

    private static MovedRegisters withOneMore() {
        MovedRegisters x = withTwenty();
        x.wire(-1, 1, 0, 1);
        x.wire(2, -2, 0, 1);
        return x;
    }

    /** "An object is used for at most 512 calls": the last of them is answered like the first. */
    private void fiveHundredAndTwelveCalls() {
        MovedRegisters x = new MovedRegisters();
        x.gate(NOT, 1);
        x.wire(1, 1, 0, 1);
        x.wire(1, -1, 0, 0);
        x.hold(1, 0, 0, 0);
        for (int calls = 5; calls <= 512; calls++) {
            asks("call " + calls, calls % 2 == 1 ? 61 : 60, x, "tick", 0, 0, 0);
        }
    }
}
