import java.util.Arrays;
import java.util.Collections;
import java.util.Random;

/** Runs of calls drawn by lot (always the same ones), each answered by the program and by the reference. */
public final class ReferenceTest {
    private static final String[] NAMES = {"gate", "wire", "hold", "held", "registers", "gates", "sound", "period",
        "weight", "delay", "least", "shared", "retime", "label", "tick", "restart"};
    private static final int[] ARGUMENTS = {2, 4, 4, 3, 2, 0, 0, 0, 2, 2, 0, 0, 1, 1, 3, 0};

    /** How far the runs have come, so that it is seen if they no longer reach the limits. */
    private static int lowest = 0;
    private static int highest = 0;
    private static int longest = 0;

    private final Due due;
    private final Random lot;
    private final MovedRegisters program = new MovedRegisters();
    private final Reference reference;
    private final StringBuilder calls = new StringBuilder();
    private final int[] answers;
    private int made = 0;

    private ReferenceTest(Due due, long seed, int[] answers) {
        this.due = due;
        this.answers = answers;
        lot = new Random(seed);
        reference = new Reference(seed);
    }

    public static void main(String[] args) {
        Due due = new Due("ReferenceTest");
        int[] answers = new int[3];
        for (int seed = 0; seed < 3000 && !due.hasWrong(); seed++) {
            int gates = seed % 10 == 0 ? 12 : 1 + seed % 6;
            new ReferenceTest(due, seed, answers).circuit(gates);
        }
        for (int seed = 0; seed < 1500 && !due.hasWrong(); seed++) {
            new ReferenceTest(due, seed, answers).anything(seed % 2 == 0 ? 150 : 500);
        }
        for (int seed = 0; seed < 1500 && !due.hasWrong(); seed++) {
            new ReferenceTest(due, seed, answers).thick(2 + seed % 11);
        }
        System.out.println("retime answered 0, 1, 2: " + Arrays.toString(answers));
        System.out.println("labels " + lowest + " .. " + highest + ", up to " + longest + " registers");
        due.isTrue("the outermost labels were met", lowest == -6 && highest == 6 && longest == 20);
        due.isTrue("every answer of retime was met often", Arrays.stream(answers).min().getAsInt() > 500);
        due.end();
    }

    /** A circuit that is nearly always sound, then calls about it. */
    private void circuit(int gates) {
        int kinds = lot.nextInt(3);
        for (int g = 1; g <= gates; g++) {
            call("gate", kinds == 0 ? lot.nextInt(2) : lot.nextInt(5), lot.nextInt(4) == 0 ? 0 : lot.nextInt(51));
        }
        int thick = 1 + lot.nextInt(4);
        for (int g = 1; g <= gates; g++) {
            for (int pin = 0; pin < 2; pin++) {
                int source = source(gates);
                call("wire", source, g, pin, lot.nextInt(thick) + (source >= g ? 1 : 0));
            }
        }
        for (int g = 1; g <= gates; g++) {
            if (lot.nextInt(4) > 0 || g > gates - 3) {
                call("wire", g, g > gates - 3 ? g - gates - 1 : -1 - lot.nextInt(3), 0, lot.nextInt(thick + 1));
            }
        }
        holdAll(gates, lot.nextInt(3));
        ask(gates);
        for (int round = 0; round < 4; round++) {
            ticks();
            if (gates <= 3) {
                compareWithAll(lot.nextInt(101));
            }
            call("retime", lot.nextInt(2) == 0 ? lot.nextInt(120) : reference.sound() ? slack() : 0);
            ask(gates);
            ticks();
            if (lot.nextInt(2) == 0) {
                holdAll(gates, lot.nextInt(3));
            }
        }
    }

    /**
     * A row of gates, numbered by lot, onto which registers are heaped by wiring its ends again and moving:
     * so labels come to -6 and 6, and wires to 20 registers.
     */
    private void thick(int gates) {
        Integer[] row = new Integer[gates];
        for (int at = 0; at < gates; at++) {
            row[at] = at + 1;
            call("gate", lot.nextInt(3) == 0 ? lot.nextInt(5) : 0, 1 + lot.nextInt(2));
        }
        Collections.shuffle(Arrays.asList(row), lot);
        for (int at = 0; at < gates; at++) {
            call("wire", at == 0 ? -1 : row[at - 1], row[at], 0, lot.nextInt(4) / 3);
            call("wire", lot.nextInt(2) == 0 ? row[at] : -2, row[at], 1, 1 + lot.nextInt(4));
        }
        call("wire", row[gates - 1], -1, 0, 4);
        int side = lot.nextInt(gates);
        call("wire", row[side], -2, 0, lot.nextInt(5));
        for (int round = 0; round < 16; round++) {
            heap(row);
            call("least");
            call("retime", reference.sound() && lot.nextInt(3) > 0 ? slack() : 600);
            look(gates);
        }
    }

    private void heap(Integer[] row) {
        int last = row.length - 1;
        switch (lot.nextInt(5)) {
            case 0: call("wire", -1, row[0], 0, 4); break;
            case 1: call("wire", row[lot.nextInt(row.length)], -3, 0, lot.nextInt(5)); break;
            case 2: call("wire", row[last], -1, 0, lot.nextInt(5)); break;
            default: call("wire", row[last], -1, 0, 4); break;
        }
        for (int output = -3; output <= -1; output++) {
            if (lot.nextInt(3) == 0 && length(output, 0) > 0) {
                call("hold", output, 0, lot.nextInt(length(output, 0)), lot.nextInt(2));
            }
        }
    }

    private void look(int gates) {
        for (int number = 1; number <= gates; number++) {
            call("label", number);
            compareHeld(number, 0, length(number, 0) - 1);
            extremes(number);
        }
        for (int t = 0; t < 2; t++) {
            call("tick", lot.nextInt(2), lot.nextInt(2), lot.nextInt(2));
        }
    }

    private void extremes(int number) {
        lowest = Math.min(lowest, reference.label(number));
        highest = Math.max(highest, reference.label(number));
        longest = Math.max(longest, length(number, 0));
    }

    private int slack() {
        return Math.min(600, Math.max(0, reference.least() + lot.nextInt(20) - 2));
    }

    private int source(int gates) {
        int number = lot.nextInt(gates + 3) - 3;
        return number >= 0 ? number + 1 : number;
    }

    private void compareWithAll(int c) {
        if (reference.sound()) {
            for (int highest = 0; highest <= 6; highest += 6) {
                int most = highest;
                String all = Arrays.toString(reference.greatestOfAll(c, highest));
                due.same("the reference's own labelling", all, () -> Arrays.toString(reference.greatest(c, most)));
            }
        }
    }

    private void holdAll(int gates, int unknown) {
        int fixed = lot.nextInt(2);
        boolean alike = lot.nextInt(2) == 0;
        for (int sink = -3; sink <= gates; sink++) {
            for (int pin = 0; pin < 2; pin++) {
                for (int register = 0; register < length(sink, pin); register++) {
                    int value = lot.nextInt(4) < unknown ? 2 : alike ? fixed : lot.nextInt(2);
                    call("hold", sink, pin, register, value);
                }
            }
        }
    }

    private int length(int sink, int pin) {
        String answer = Due.outcome(() -> reference.registers(sink, pin));
        return answer.startsWith("throws") ? 0 : Integer.parseInt(answer);
    }

    private void ask(int gates) {
        for (String name : new String[] {"gates", "sound", "period", "least", "shared"}) {
            call(name);
        }
        for (int sink = -3; sink <= gates; sink++) {
            for (int pin = 0; pin < 2; pin++) {
                call("registers", sink, pin);
                for (int register = 0; register <= length(sink, pin); register++) {
                    compareHeld(sink, pin, register);
                }
            }
            call("label", sink);
            int to = 1 + lot.nextInt(gates);
            call("weight", sink, to);
            call("delay", sink, to);
        }
    }

    /** Not told as a call, for there are many. */
    private void compareHeld(int sink, int pin, int register) {
        String want = Due.outcome(() -> reference.held(sink, pin, register));
        due.same("held", want, () -> program.held(sink, pin, register));
    }

    private void ticks() {
        call("restart");
        for (int t = 0; t < 6; t++) {
            call("tick", lot.nextInt(8) == 0 ? 2 : lot.nextInt(2), lot.nextInt(2), lot.nextInt(3));
        }
    }

    /** Any call with any arguments, wrong ones too. */
    private void anything(int count) {
        for (int g = lot.nextInt(4); g > 0; g--) {
            call("gate", lot.nextInt(5), lot.nextInt(51));
        }
        for (int i = 0; i < count; i++) {
            int which = lot.nextInt(3) == 0 ? 1 : lot.nextInt(NAMES.length);
            if (which == 0 && lot.nextInt(3) > 0) {
                which = 14;
            }
            int[] arguments = new int[ARGUMENTS[which]];
            for (int k = 0; k < arguments.length; k++) {
                arguments[k] = argument(which, k);
            }
            call(NAMES[which], arguments);
        }
    }

    private int argument(int which, int k) {
        int strange = lot.nextInt(60);
        if (strange == 0) {
            int[] far = {Integer.MIN_VALUE, Integer.MAX_VALUE, -4, 13, 51, 601, 600, 5, 1 << 30, -100};
            return far[lot.nextInt(far.length)];
        }
        boolean end = which == 1 && k < 2 || which >= 2 && which <= 4 && k == 0;
        if (end) {
            return lot.nextInt(reference.gates() + 4) - 3 + (strange == 1 ? 1 : 0);
        }
        if (which == 8 || which == 9 || which == 13) {
            return lot.nextInt(reference.gates() + 2);
        }
        if (which == 12) {
            return lot.nextInt(130) - 3;
        }
        if (which == 0) {
            return k == 0 ? lot.nextInt(7) - 1 : lot.nextInt(54) - 1;
        }
        if (which == 1 && k == 3) {
            return lot.nextInt(7) - 1;
        }
        return lot.nextInt(strange < 6 ? 5 : which == 1 || k == 1 ? 2 : 3) - (strange < 4 ? 1 : 0);
    }

    private void call(String name, int... at) {
        if (due.hasWrong()) {
            return;
        }
        if (++made > 512) {
            return;
        }
        String text = name + Arrays.toString(at);
        String want = Due.outcome(() -> onReference(name, at));
        String[] got = new String[1];
        due.same(text, want, () -> got[0] = Due.outcome(() -> Bench.call(program, name, at)));
        calls.append(text).append(" = ").append(got[0]).append('\n');
        if (due.hasWrong()) {
            System.out.println(calls);
        }
        if (name.equals("retime") && want.length() == 1) {
            answers[want.charAt(0) - '0']++;
        }
    }

    private Object onReference(String name, int[] at) {
        switch (name) {
            case "gate": return reference.gate(at[0], at[1]);
            case "wire": reference.wire(at[0], at[1], at[2], at[3]); return "done";
            case "hold": reference.hold(at[0], at[1], at[2], at[3]); return "done";
            case "held": return reference.held(at[0], at[1], at[2]);
            case "registers": return reference.registers(at[0], at[1]);
            case "gates": return reference.gates();
            case "sound": return reference.sound();
            case "period": return reference.period();
            case "weight": return reference.weight(at[0], at[1]);
            case "delay": return reference.delay(at[0], at[1]);
            case "least": return reference.least();
            case "shared": return reference.shared();
            case "retime": return reference.retime(at[0]);
            case "label": return reference.label(at[0]);
            case "tick": return reference.tick(at[0], at[1], at[2]);
            default: reference.restart(); return "done";
        }
    }
}
