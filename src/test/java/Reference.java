import java.util.ArrayList;
import java.util.Collections;
import java.util.List;
import java.util.Map;
import java.util.NoSuchElementException;
import java.util.Random;
import java.util.TreeMap;

/**
 * The document once more, written as its words stand and without the program's methods: paths are
 * walked one by one, moves are made in an order drawn by lot, and registers are lists.
 */
final class Reference {
    static final class Gate {
        final int kind;
        final int delay;
        int label = 0;

        Gate(int kind, int delay) {
            this.kind = kind;
            this.delay = delay;
        }

        int pins() {
            return kind < 2 ? 1 : 2;
        }
    }

    static final class Wire {
        final int source;
        final int sink;
        final int pin;
        List<Integer> values = new ArrayList<>();
        List<Integer> run = new ArrayList<>();

        Wire(int source, int sink, int pin) {
            this.source = source;
            this.sink = sink;
            this.pin = pin;
        }

        Wire copy() {
            Wire other = new Wire(source, sink, pin);
            other.values.addAll(values);
            return other;
        }

        /** Inputs and outputs are no gates. */
        boolean joinsGates() {
            return source > 0 && sink > 0;
        }
    }

    private final Random lot;
    private final List<Gate> gates = new ArrayList<>();
    private Map<String, Wire> wires = new TreeMap<>();

    Reference(long seed) {
        lot = new Random(seed);
    }

    int gate(int kind, int delay) {
        if (kind < 0 || kind > 4 || delay < 0 || delay > 50) {
            throw new IllegalArgumentException();
        }
        if (gates.size() == 12) {
            throw new UnsupportedOperationException();
        }
        gates.add(new Gate(kind, delay));
        restart();
        return gates.size();
    }

    void wire(int source, int sink, int pin, int registers) {
        if (!isEnd(source) || !isEnd(sink)) {
            throw new NoSuchElementException();
        }
        int pins = sink < 0 ? 1 : of(sink).pins();
        if (pin < 0 || pin >= pins || registers < 0 || registers > 4) {
            throw new IllegalArgumentException();
        }
        Wire wire = new Wire(source, sink, pin);
        wire.values.addAll(Collections.nCopies(registers, 2));
        wires.put(key(sink, pin), wire);
        restart();
    }

    void hold(int sink, int pin, int register, int value) {
        held(sink, pin, register);
        if (value < 0 || value > 2) {
            throw new IllegalArgumentException();
        }
        find(sink, pin).values.set(register, value);
        restart();
    }

    int held(int sink, int pin, int register) {
        Wire wire = find(sink, pin);
        if (register < 0 || register >= wire.values.size()) {
            throw new NoSuchElementException();
        }
        return wire.values.get(register);
    }

    int registers(int sink, int pin) {
        return find(sink, pin).values.size();
    }

    int gates() {
        return gates.size();
    }

    boolean sound() {
        for (int g = 1; g <= gates.size(); g++) {
            for (int pin = 0; pin < of(g).pins(); pin++) {
                if (!wires.containsKey(key(g, pin))) {
                    return false;
                }
            }
            if (wiresFrom(wires, g).isEmpty() || comesBack(g)) {
                return false;
            }
        }
        return true;
    }

    int period() {
        needSound();
        return longest(new int[gates.size() + 1]);
    }

    int weight(int from, int to) {
        return bestPath(from, to)[0];
    }

    int delay(int from, int to) {
        return bestPath(from, to)[1];
    }

    int least() {
        needSound();
        for (int c = 0; c <= 600; c++) {
            if (greatest(c, 6) != null) {
                return c;
            }
        }
        throw new AssertionError("the present circuit has a period");
    }

    int shared() {
        needSound();
        int sum = 0;
        for (int source = -3; source <= gates.size(); source++) {
            sum += wiresFrom(wires, source).stream().mapToInt(w -> w.values.size()).max().orElse(0);
        }
        return sum;
    }

    int retime(int c) {
        needSound();
        if (c < 0 || c > 600) {
            throw new IllegalArgumentException();
        }
        int[] labels = greatest(c, 6);
        if (labels == null) {
            return 0;
        }
        if (follow(labels)) {
            return 2;
        }
        labels = greatest(c, 0);
        if (labels == null) {
            return 0;
        }
        if (!follow(labels)) {
            throw new AssertionError("a conflict without a move backward");
        }
        return 1;
    }

    int label(int gate) {
        needGate(gate);
        return of(gate).label;
    }

    int tick(int a, int b, int c) {
        needSound();
        for (int value : new int[] {a, b, c}) {
            if (value < 0 || value > 2) {
                throw new IllegalArgumentException();
            }
        }
        int[] inputs = {a, b, c};
        int answer = 0;
        for (int output = -3; output <= -1; output++) {
            Wire wire = wires.get(key(output, 0));
            answer = 4 * answer + (wire == null ? 3 : wireValue(wire, inputs));
        }
        Map<Wire, Integer> next = new java.util.IdentityHashMap<>();
        for (Wire wire : wires.values()) {
            next.put(wire, sourceValue(wire.source, inputs));
        }
        for (Wire wire : wires.values()) {
            if (!wire.run.isEmpty()) {
                wire.run.remove(0);
                wire.run.add(next.get(wire));
            }
        }
        return answer;
    }

    void restart() {
        for (Wire wire : wires.values()) {
            wire.run = new ArrayList<>(wire.values);
        }
    }

    /** The greatest labelling by trying every one there is; only for few gates. */
    int[] greatestOfAll(int c, int highest) {
        int[] labels = new int[gates.size() + 1];
        int[] best = new int[gates.size() + 1];
        java.util.Arrays.fill(best, -99);
        best[0] = 0;
        List<int[]> found = new ArrayList<>();
        tryAll(c, highest, 1, labels, found);
        for (int[] one : found) {
            for (int g = 1; g < one.length; g++) {
                best[g] = Math.max(best[g], one[g]);
            }
        }
        return found.isEmpty() ? null : best;
    }

    /** Lowers labels from the highest on, each only where a wire or a slow path leaves no other way. */
    int[] greatest(int c, int highest) {
        int[] labels = new int[gates.size() + 1];
        for (int g = 1; g < labels.length; g++) {
            labels[g] = highest;
        }
        while (true) {
            int tooHigh = tooHigh(c, labels);
            if (tooHigh == Integer.MAX_VALUE) {
                return labels;
            }
            if (tooHigh == 0) {
                return null;
            }
            labels[tooHigh]--;
            if (labels[tooHigh] < -6) {
                return null;
            }
        }
    }

    private int tooHigh(int c, int[] labels) {
        for (Wire wire : wires.values()) {
            if (count(wire, labels) < 0) {
                return Math.max(wire.source, 0);
            }
            if (count(wire, labels) > 20) {
                return Math.max(wire.sink, 0);
            }
        }
        for (int g = 1; g <= gates.size(); g++) {
            if (longestFrom(g, labels) > c) {
                return g;
            }
        }
        return Integer.MAX_VALUE;
    }

    private void tryAll(int c, int highest, int at, int[] labels, List<int[]> found) {
        if (at == labels.length) {
            boolean legal = wires.values().stream().allMatch(w -> count(w, labels) >= 0 && count(w, labels) <= 20);
            if (legal && longest(labels) <= c) {
                found.add(labels.clone());
            }
            return;
        }
        for (int label = -6; label <= highest; label++) {
            labels[at] = label;
            tryAll(c, highest, at + 1, labels, found);
        }
    }

    private static int count(Wire wire, int[] labels) {
        return wire.values.size() + labels[Math.max(wire.sink, 0)] - labels[Math.max(wire.source, 0)];
    }

    private int longest(int[] labels) {
        int most = 0;
        for (int g = 1; g <= gates.size(); g++) {
            most = Math.max(most, longestFrom(g, labels));
        }
        return most;
    }

    private int longestFrom(int gate, int[] labels) {
        int most = 0;
        for (Wire wire : wiresFrom(wires, gate)) {
            if (wire.sink > 0 && count(wire, labels) == 0) {
                most = Math.max(most, longestFrom(wire.sink, labels));
            }
        }
        return most + of(gate).delay;
    }

    private int[] bestPath(int from, int to) {
        needGate(from);
        needGate(to);
        needSound();
        int[] best = {-1, -1};
        walk(from, to, 0, of(from).delay, new boolean[gates.size() + 1], best);
        return best;
    }

    private void walk(int at, int to, int weight, int delay, boolean[] passed, int[] best) {
        if (at == to) {
            if (best[0] < 0 || weight < best[0] || weight == best[0] && delay > best[1]) {
                best[0] = weight;
                best[1] = delay;
            }
            return;
        }
        passed[at] = true;
        for (Wire wire : wiresFrom(wires, at)) {
            if (wire.sink > 0 && !passed[wire.sink]) {
                walk(wire.sink, to, weight + wire.values.size(), delay + of(wire.sink).delay, passed, best);
            }
        }
        passed[at] = false;
    }

    private boolean follow(int[] labels) {
        Map<String, Wire> moved = new TreeMap<>();
        wires.forEach((key, wire) -> moved.put(key, wire.copy()));
        int[] left = labels.clone();
        List<Integer> can = movable(moved, left);
        while (!can.isEmpty()) {
            int gate = can.get(lot.nextInt(can.size()));
            if (left[gate] < 0) {
                forward(moved, gate);
                left[gate]++;
            } else {
                if (!backward(moved, gate)) {
                    return false;
                }
                left[gate]--;
            }
            can = movable(moved, left);
        }
        for (int g = 1; g < left.length; g++) {
            if (left[g] != 0) {
                throw new AssertionError("no order in which the moves can be made");
            }
            of(g).label = labels[g];
        }
        wires = moved;
        restart();
        return true;
    }

    private List<Integer> movable(Map<String, Wire> moved, int[] left) {
        List<Integer> can = new ArrayList<>();
        for (int g = 1; g < left.length; g++) {
            List<Wire> needed = left[g] < 0 ? wiresTo(moved, g) : wiresFrom(moved, g);
            if (left[g] != 0 && needed.stream().noneMatch(w -> w.values.isEmpty())) {
                can.add(g);
            }
        }
        return can;
    }

    private void forward(Map<String, Wire> moved, int gate) {
        List<Integer> taken = new ArrayList<>();
        for (Wire wire : wiresTo(moved, gate)) {
            taken.add(wire.values.remove(0));
        }
        int value = gateValue(of(gate).kind, taken);
        for (Wire wire : wiresFrom(moved, gate)) {
            wire.values.add(value);
        }
    }

    private boolean backward(Map<String, Wire> moved, int gate) {
        List<Integer> taken = new ArrayList<>();
        for (Wire wire : wiresFrom(moved, gate)) {
            taken.add(wire.values.remove(wire.values.size() - 1));
        }
        if (taken.contains(0) && taken.contains(1)) {
            return false;
        }
        int value = taken.contains(0) ? 0 : taken.contains(1) ? 1 : 2;
        int[] pins = BACK[of(gate).kind][value];
        List<Wire> to = wiresTo(moved, gate);
        for (int pin = 0; pin < to.size(); pin++) {
            to.get(pin).values.add(0, pins[pin]);
        }
        return true;
    }

    /** By kind and value: what comes at pin 0 and at pin 1. */
    private static final int[][][] BACK = {
        {{0}, {1}, {2}},
        {{1}, {0}, {2}},
        {{0, 2}, {1, 1}, {2, 2}},
        {{0, 0}, {1, 2}, {2, 2}},
        {{0, 0}, {1, 0}, {2, 2}},
    };

    /** By the values at the pins. */
    private static final int[] NOT = {1, 0, 2};
    private static final int[][] AND = {{0, 0, 0}, {0, 1, 2}, {0, 2, 2}};
    private static final int[][] OR = {{0, 1, 2}, {1, 1, 1}, {2, 1, 2}};
    private static final int[][] ODD = {{0, 1, 2}, {1, 0, 2}, {2, 2, 2}};

    private static int gateValue(int kind, List<Integer> at) {
        switch (kind) {
            case 0: return at.get(0);
            case 1: return NOT[at.get(0)];
            case 2: return AND[at.get(0)][at.get(1)];
            case 3: return OR[at.get(0)][at.get(1)];
            default: return ODD[at.get(0)][at.get(1)];
        }
    }

    private int wireValue(Wire wire, int[] inputs) {
        return wire.run.isEmpty() ? sourceValue(wire.source, inputs) : wire.run.get(0);
    }

    private int sourceValue(int source, int[] inputs) {
        if (source < 0) {
            return inputs[-source - 1];
        }
        List<Integer> at = new ArrayList<>();
        for (Wire wire : wiresTo(wires, source)) {
            at.add(wireValue(wire, inputs));
        }
        return gateValue(of(source).kind, at);
    }

    private boolean comesBack(int gate) {
        boolean[] reached = new boolean[gates.size() + 1];
        reach(gate, reached);
        return reached[gate];
    }

    private void reach(int gate, boolean[] reached) {
        for (Wire wire : wiresFrom(wires, gate)) {
            if (wire.joinsGates() && wire.values.isEmpty() && !reached[wire.sink]) {
                reached[wire.sink] = true;
                reach(wire.sink, reached);
            }
        }
    }

    private static List<Wire> wiresFrom(Map<String, Wire> all, int source) {
        List<Wire> from = new ArrayList<>();
        for (Wire wire : all.values()) {
            if (wire.source == source) {
                from.add(wire);
            }
        }
        return from;
    }

    private static List<Wire> wiresTo(Map<String, Wire> all, int gate) {
        List<Wire> to = new ArrayList<>();
        for (int pin = 0; pin < 2; pin++) {
            Wire wire = all.get(key(gate, pin));
            if (wire != null) {
                to.add(wire);
            }
        }
        return to;
    }

    private Wire find(int sink, int pin) {
        Wire wire = wires.get(key(sink, pin));
        if (wire == null) {
            throw new NoSuchElementException();
        }
        return wire;
    }

    private boolean isEnd(int number) {
        return number >= -3 && number <= gates.size() && number != 0;
    }

    private Gate of(int number) {
        return gates.get(number - 1);
    }

    private void needGate(int number) {
        if (number < 1 || number > gates.size()) {
            throw new NoSuchElementException();
        }
    }

    private void needSound() {
        if (!sound()) {
            throw new IllegalStateException();
        }
    }

    private static String key(int sink, int pin) {
        return sink + "/" + pin;
    }
}
