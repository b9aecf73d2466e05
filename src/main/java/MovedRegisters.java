import java.util.NoSuchElementException;

/**
 * A circuit of gates and registers, the registers of which are moved over the gates so that it may
 * be clocked faster, while to the outside it goes on doing what it did.
 */
public final class MovedRegisters {
    public static final int UNKNOWN = 2;
    public static final int NONE = -1;

    private static final int SAME = 0;
    private static final int NOT = 1;
    private static final int AND = 2;
    private static final int OR = 3;
    private static final int ODD = 4;

    private static final int MOST_GATES = 12;
    private static final int MOST_DELAY = 50;
    private static final int MOST_NEW_REGISTERS = 4;
    private static final int MOST_REGISTERS = 20;
    private static final int MOST_PERIOD = 600;
    private static final int MOST_LABEL = 6;
    private static final int PORTS = 3;

    /** No source bears the number 0, so it stands for the source of a wire that is not there. */
    private static final int NO_SOURCE = 0;
    /** No gate bears the number 0, so it stands for all inputs and outputs: their label is the same. */
    private static final int OUTSIDE = 0;
    private static final int NODES = MOST_GATES + 1;
    /** A wire is known by its sink: two places for each gate, then one for each output. */
    private static final int FIRST_OUTPUT = 2 * MOST_GATES;
    private static final int WIRES = FIRST_OUTPUT + PORTS;

    private final Plan plan = new Plan();
    private final Bank bank = new Bank();
    private final Bank trial = new Bank();
    private final Order order = new Order();
    private final Paths paths = new Paths();
    private final Limits limits = new Limits();
    private final Mover mover = new Mover();
    private final Clock clock = new Clock();
    private final int[] latest = new int[NODES];

    public MovedRegisters() {
    }

    public int gate(int kind, int delay) throws IllegalArgumentException, UnsupportedOperationException {
        if (kind < SAME || kind > ODD || delay < 0 || delay > MOST_DELAY) {
            throw new IllegalArgumentException();
        }
        if (plan.count >= MOST_GATES) {
            throw new UnsupportedOperationException();
        }
        plan.addGate(kind, delay);
        clock.begin(bank);
        return plan.count;
    }

    public void wire(int source, int sink, int pin, int registers)
            throws NoSuchElementException, IllegalArgumentException {
        if (!plan.hasEnd(source) || !plan.hasEnd(sink)) {
            throw new NoSuchElementException();
        }
        int place = plan.placeOf(sink, pin);
        if (place == NONE || registers < 0 || registers > MOST_NEW_REGISTERS) {
            throw new IllegalArgumentException();
        }
        plan.source[place] = source;
        bank.fill(place, registers);
        clock.begin(bank);
    }

    public void hold(int sink, int pin, int register, int value)
            throws NoSuchElementException, IllegalArgumentException {
        int wire = registerWire(sink, pin, register);
        if (!isValue(value)) {
            throw new IllegalArgumentException();
        }
        bank.write(wire, register, value);
        clock.begin(bank);
    }

    public int held(int sink, int pin, int register) throws NoSuchElementException {
        return bank.read(registerWire(sink, pin, register), register);
    }

    public int registers(int sink, int pin) throws NoSuchElementException {
        return bank.length(wireTo(sink, pin));
    }

    public int gates() {
        return plan.count;
    }

    public boolean sound() {
        return isSound();
    }

    public int period() throws IllegalStateException {
        needSound();
        paths.measure(plan, bank);
        return paths.longestUnregistered(plan.count);
    }

    public int weight(int from, int to) throws NoSuchElementException, IllegalStateException {
        needGate(from);
        needGate(to);
        needSound();
        paths.measure(plan, bank);
        return paths.least[from][to];
    }

    public int delay(int from, int to) throws NoSuchElementException, IllegalStateException {
        needGate(from);
        needGate(to);
        needSound();
        paths.measure(plan, bank);
        return paths.longest[from][to];
    }

    public int least() throws IllegalStateException {
        needSound();
        paths.measure(plan, bank);
        int low = 0;
        // The labelling of zeros is always legal, so the present period can be had.
        int high = paths.longestUnregistered(plan.count);
        for (int step = 0; step < MOST_PERIOD && low < high; step++) {
            int middle = (low + high) / 2;
            limits.set(plan, bank, paths, middle);
            if (limits.solve(plan.count, MOST_LABEL)) {
                high = middle;
            } else {
                low = middle + 1;
            }
        }
        return high;
    }

    public int shared() throws IllegalStateException {
        needSound();
        int sum = 0;
        // NO_SOURCE stands in this row too, but a place without a wire has no registers.
        for (int source = -PORTS; source <= plan.count; source++) {
            sum += mostFrom(source);
        }
        return sum;
    }

    public int retime(int c) throws IllegalStateException, IllegalArgumentException {
        needSound();
        if (c < 0 || c > MOST_PERIOD) {
            throw new IllegalArgumentException();
        }
        paths.measure(plan, bank);
        limits.set(plan, bank, paths, c);
        if (moveUpTo(MOST_LABEL)) {
            return 2;
        }
        // Where there is no labelling at all there is no forward one either, so that case answers 0 here too.
        return moveUpTo(0) ? 1 : 0;
    }

    public int label(int gate) throws NoSuchElementException {
        needGate(gate);
        return latest[gate];
    }

    public int tick(int a, int b, int c) throws IllegalStateException, IllegalArgumentException {
        needSound();
        if (!isValue(a) || !isValue(b) || !isValue(c)) {
            throw new IllegalArgumentException();
        }
        clock.setInputs(a, b, c);
        clock.settle(plan, order);
        int answer = clock.outputs(plan);
        clock.shift(plan);
        return answer;
    }

    public void restart() {
        clock.begin(bank);
    }

    private static boolean isValue(int value) {
        return value >= 0 && value <= UNKNOWN;
    }

    private void needGate(int number) {
        if (!plan.hasGate(number)) {
            throw new NoSuchElementException();
        }
    }

    private void needSound() {
        if (!isSound()) {
            throw new IllegalStateException();
        }
    }

    /** Leaves the order of the gates behind, by which a tick settles them. */
    private boolean isSound() {
        return plan.isComplete() && order.arrange(plan, bank);
    }

    private int wireTo(int sink, int pin) {
        int place = plan.placeOf(sink, pin);
        if (place == NONE || plan.source[place] == NO_SOURCE) {
            throw new NoSuchElementException();
        }
        return place;
    }

    private int registerWire(int sink, int pin, int register) {
        int wire = wireTo(sink, pin);
        if (register < 0 || register >= bank.length(wire)) {
            throw new NoSuchElementException();
        }
        return wire;
    }

    private int mostFrom(int source) {
        int most = 0;
        for (int wire = 0; wire < WIRES; wire++) {
            if (plan.source[wire] == source) {
                most = Math.max(most, bank.length(wire));
            }
        }
        return most;
    }

    /** Follows the greatest labelling below a bound; false, with nothing changed, if there is none or a conflict. */
    private boolean moveUpTo(int highest) {
        if (!limits.solve(plan.count, highest)) {
            return false;
        }
        trial.copy(bank);
        if (!mover.follow(plan, trial, limits.labels)) {
            return false;
        }
        bank.copy(trial);
        System.arraycopy(limits.labels, 0, latest, 0, plan.count + 1);
        clock.begin(bank);
        return true;
    }

    /** The gates, and for each sink where its wire comes from. */
    private static final class Plan {
        int count;
        final int[] kind = new int[NODES];
        final int[] cost = new int[NODES];
        final int[] source = new int[WIRES];

        void addGate(int newKind, int newCost) {
            count++;
            kind[count] = newKind;
            cost[count] = newCost;
        }

        boolean hasGate(int number) {
            return number >= 1 && number <= count;
        }

        boolean hasEnd(int number) {
            return hasGate(number) || isPort(number);
        }

        /** The place of the wire to a pin; NONE when there is no such sink or pin. */
        int placeOf(int sink, int pin) {
            if (pin < 0) {
                return NONE;
            }
            if (hasGate(sink)) {
                return pin < pinsOf(sink) ? firstPin(sink) + pin : NONE;
            }
            return isPort(sink) && pin == 0 ? FIRST_OUTPUT - 1 - sink : NONE;
        }

        int pinsOf(int number) {
            return kind[number] <= NOT ? 1 : 2;
        }

        int firstPin(int number) {
            return 2 * (number - 1);
        }

        int endOfPins(int number) {
            return firstPin(number) + pinsOf(number);
        }

        int gateBehind(int wire) {
            return Math.max(source[wire], OUTSIDE);
        }

        int gateBefore(int wire) {
            return wire < FIRST_OUTPUT ? wire / 2 + 1 : OUTSIDE;
        }

        boolean isComplete() {
            for (int number = 1; number <= count; number++) {
                if (!hasAllPins(number) || !isSource(number)) {
                    return false;
                }
            }
            return true;
        }

        private static boolean isPort(int number) {
            return number >= -PORTS && number <= -1;
        }

        private boolean hasAllPins(int number) {
            for (int wire = firstPin(number); wire < endOfPins(number); wire++) {
                if (source[wire] == NO_SOURCE) {
                    return false;
                }
            }
            return true;
        }

        private boolean isSource(int number) {
            for (int wire = 0; wire < WIRES; wire++) {
                if (source[wire] == number) {
                    return true;
                }
            }
            return false;
        }
    }

    /**
     * The registers of all wires. A wire's values stand in one long, two bits each, register 0 lowest:
     * while moves are made there may be 26 of them, 6 more than a legal wire has. Bits beyond a wire's
     * length mean nothing: a register that comes there is written over them.
     */
    private static final class Bank {
        private final int[] lengths = new int[WIRES];
        private final long[] values = new long[WIRES];

        int length(int wire) {
            return lengths[wire];
        }

        int read(int wire, int register) {
            return (int) (values[wire] >>> 2 * register) & 3;
        }

        void write(int wire, int register, int value) {
            long others = values[wire] & ~(3L << 2 * register);
            values[wire] = others | (long) value << 2 * register;
        }

        void fill(int wire, int registers) {
            lengths[wire] = 0;
            for (int made = 0; made < registers; made++) {
                putAtSource(wire, UNKNOWN);
            }
        }

        int takeAtSink(int wire) {
            int value = read(wire, 0);
            values[wire] >>>= 2;
            lengths[wire]--;
            return value;
        }

        void putAtSink(int wire, int value) {
            values[wire] = values[wire] << 2 | value;
            lengths[wire]++;
        }

        int takeAtSource(int wire) {
            lengths[wire]--;
            return read(wire, lengths[wire]);
        }

        void putAtSource(int wire, int value) {
            write(wire, lengths[wire], value);
            lengths[wire]++;
        }

        void copy(Bank other) {
            System.arraycopy(other.lengths, 0, lengths, 0, WIRES);
            System.arraycopy(other.values, 0, values, 0, WIRES);
        }
    }

    /** The gates in an order in which each stands behind those that reach it without a register. */
    private static final class Order {
        final int[] place = new int[MOST_GATES];
        private final boolean[] placed = new boolean[NODES];
        private int filled;

        /** False when there is no such order: then some gate can be come back to without a register. */
        boolean arrange(Plan plan, Bank bank) {
            filled = 0;
            for (int number = 1; number <= plan.count; number++) {
                placed[number] = false;
            }
            // Each round places a gate at least, unless none can be placed any more.
            for (int round = 0; round < plan.count && filled < plan.count; round++) {
                placeReady(plan, bank);
            }
            return filled == plan.count;
        }

        private void placeReady(Plan plan, Bank bank) {
            for (int number = 1; number <= plan.count; number++) {
                if (!placed[number] && isReady(plan, bank, number)) {
                    placed[number] = true;
                    place[filled] = number;
                    filled++;
                }
            }
        }

        private boolean isReady(Plan plan, Bank bank, int number) {
            for (int wire = plan.firstPin(number); wire < plan.endOfPins(number); wire++) {
                int before = plan.gateBehind(wire);
                if (bank.length(wire) == 0 && before != OUTSIDE && !placed[before]) {
                    return false;
                }
            }
            return true;
        }
    }

    /** For every two gates the least weight of a path, and the greatest delay of the paths of that weight. */
    private static final class Paths {
        final int[][] least = new int[NODES][NODES];
        final int[][] longest = new int[NODES][NODES];

        /** The circuit must be sound: a circle without registers would have no greatest delay. */
        void measure(Plan plan, Bank bank) {
            for (int from = 1; from <= plan.count; from++) {
                for (int to = 1; to <= plan.count; to++) {
                    least[from][to] = NONE;
                    longest[from][to] = NONE;
                }
                offer(from, from, 0, plan.cost[from]);
            }
            for (int wire = 0; wire < WIRES; wire++) {
                offerWire(plan, bank, wire);
            }
            for (int over = 1; over <= plan.count; over++) {
                for (int from = 1; from <= plan.count; from++) {
                    offerOver(plan, from, over);
                }
            }
        }

        int longestUnregistered(int count) {
            int most = 0;
            for (int from = 1; from <= count; from++) {
                for (int to = 1; to <= count; to++) {
                    if (least[from][to] == 0) {
                        most = Math.max(most, longest[from][to]);
                    }
                }
            }
            return most;
        }

        private void offerWire(Plan plan, Bank bank, int wire) {
            int from = plan.gateBehind(wire);
            int to = plan.gateBefore(wire);
            if (from != OUTSIDE && to != OUTSIDE) {
                offer(from, to, bank.length(wire), plan.cost[from] + plan.cost[to]);
            }
        }

        private void offerOver(Plan plan, int from, int over) {
            if (least[from][over] == NONE) {
                return;
            }
            for (int to = 1; to <= plan.count; to++) {
                if (least[over][to] != NONE) {
                    int sum = longest[from][over] + longest[over][to] - plan.cost[over];
                    offer(from, to, least[from][over] + least[over][to], sum);
                }
            }
        }

        private void offer(int from, int to, int registers, int time) {
            int known = least[from][to];
            if (known == NONE || registers < known || registers == known && time > longest[from][to]) {
                least[from][to] = registers;
                longest[from][to] = time;
            }
        }
    }

    /**
     * What a labelling must keep to: the label of a is at most that of b plus most[a][b]. The solutions of such
     * limits have a greatest one, which is found by lowering labels only as far as a limit forces them.
     */
    private static final class Limits {
        private static final int FREE = 1000;
        /** Each round lowers a label at least, and a label can be lowered 12 times before it is below -6. */
        private static final int MOST_ROUNDS = MOST_GATES * 2 * MOST_LABEL + 2;

        final int[] labels = new int[NODES];
        private final int[][] most = new int[NODES][NODES];

        void set(Plan plan, Bank bank, Paths paths, int c) {
            for (int a = 0; a <= plan.count; a++) {
                for (int b = 0; b <= plan.count; b++) {
                    most[a][b] = FREE;
                }
            }
            for (int wire = 0; wire < WIRES; wire++) {
                if (plan.source[wire] != NO_SOURCE) {
                    limitWire(plan.gateBehind(wire), plan.gateBefore(wire), bank.length(wire));
                }
            }
            for (int from = 1; from <= plan.count; from++) {
                limitPaths(plan.count, paths, from, c);
            }
        }

        /** Leaves the greatest labelling with no label above highest; false when there is none. */
        boolean solve(int count, int highest) {
            labels[OUTSIDE] = 0;
            for (int number = 1; number <= count; number++) {
                labels[number] = highest;
            }
            for (int round = 0; round < MOST_ROUNDS; round++) {
                boolean changed = lowerAll(count);
                if (!areAllowed(count)) {
                    return false;
                }
                if (!changed) {
                    return true;
                }
            }
            return false;
        }

        private void limitWire(int from, int to, int registers) {
            limit(from, to, registers);
            limit(to, from, MOST_REGISTERS - registers);
        }

        /** Whatever the labels, a path too slow without a register is one of least weight, so these say enough. */
        private void limitPaths(int count, Paths paths, int from, int c) {
            for (int to = 1; to <= count; to++) {
                if (paths.longest[from][to] > c) {
                    limit(from, to, paths.least[from][to] - 1);
                }
            }
        }

        private void limit(int a, int b, int bound) {
            most[a][b] = Math.min(most[a][b], bound);
        }

        private boolean lowerAll(int count) {
            boolean changed = false;
            for (int a = 0; a <= count; a++) {
                for (int b = 0; b <= count; b++) {
                    if (labels[a] > labels[b] + most[a][b]) {
                        labels[a] = labels[b] + most[a][b];
                        changed = true;
                    }
                }
            }
            return changed;
        }

        private boolean areAllowed(int count) {
            for (int number = 1; number <= count; number++) {
                if (labels[number] < -MOST_LABEL) {
                    return false;
                }
            }
            return labels[OUTSIDE] == 0;
        }
    }

    /** Moves registers over gates as a labelling says. */
    private static final class Mover {
        private static final int MOST_MOVES = MOST_GATES * MOST_LABEL;
        private static final int CONFLICT = 3;

        private final int[] left = new int[NODES];

        /** False when there is a conflict; the bank is of no use then. */
        boolean follow(Plan plan, Bank bank, int[] labels) {
            System.arraycopy(labels, 0, left, 0, plan.count + 1);
            // As long as moves are left, one of them can be made: no round but the last is idle.
            for (int round = 0; round <= MOST_MOVES; round++) {
                if (isDone(plan.count)) {
                    return true;
                }
                if (!moveEach(plan, bank)) {
                    return false;
                }
            }
            return false;
        }

        private boolean isDone(int count) {
            for (int number = 1; number <= count; number++) {
                if (left[number] != 0) {
                    return false;
                }
            }
            return true;
        }

        private boolean moveEach(Plan plan, Bank bank) {
            for (int number = 1; number <= plan.count; number++) {
                if (left[number] < 0 && canForward(plan, bank, number)) {
                    left[number]++;
                    forward(plan, bank, number);
                } else if (left[number] > 0 && canBackward(plan, bank, number)) {
                    left[number]--;
                    if (!backward(plan, bank, number)) {
                        return false;
                    }
                }
            }
            return true;
        }

        private boolean canForward(Plan plan, Bank bank, int number) {
            for (int wire = plan.firstPin(number); wire < plan.endOfPins(number); wire++) {
                if (bank.length(wire) == 0) {
                    return false;
                }
            }
            return true;
        }

        private boolean canBackward(Plan plan, Bank bank, int number) {
            for (int wire = 0; wire < WIRES; wire++) {
                if (plan.source[wire] == number && bank.length(wire) == 0) {
                    return false;
                }
            }
            return true;
        }

        private void forward(Plan plan, Bank bank, int number) {
            int pin = plan.firstPin(number);
            int first = bank.takeAtSink(pin);
            int second = plan.pinsOf(number) == 2 ? bank.takeAtSink(pin + 1) : UNKNOWN;
            int value = Logic.made(plan.kind[number], first, second);
            for (int wire = 0; wire < WIRES; wire++) {
                if (plan.source[wire] == number) {
                    bank.putAtSource(wire, value);
                }
            }
        }

        private boolean backward(Plan plan, Bank bank, int number) {
            int value = UNKNOWN;
            for (int wire = 0; wire < WIRES; wire++) {
                if (plan.source[wire] == number) {
                    value = joined(value, bank.takeAtSource(wire));
                }
            }
            if (value == CONFLICT) {
                return false;
            }
            int pin = plan.firstPin(number);
            for (int wire = pin; wire < plan.endOfPins(number); wire++) {
                bank.putAtSink(wire, Logic.needed(plan.kind[number], wire - pin, value));
            }
            return true;
        }

        private static int joined(int a, int b) {
            if (a == UNKNOWN || a == b) {
                return b;
            }
            return b == UNKNOWN ? a : CONFLICT;
        }
    }

    /** The run: registers that begin with the circuit's values and go on from there. */
    private static final class Clock {
        /** A source, -3 .. 12, has its value at this place behind its number. */
        private static final int SHIFT = PORTS;
        private static final int NOT_WIRED = 3;

        private final Bank state = new Bank();
        private final int[] value = new int[SHIFT + NODES];

        void begin(Bank bank) {
            state.copy(bank);
        }

        void setInputs(int a, int b, int c) {
            value[SHIFT - 1] = a;
            value[SHIFT - 2] = b;
            value[SHIFT - 3] = c;
        }

        void settle(Plan plan, Order order) {
            for (int at = 0; at < plan.count; at++) {
                int number = order.place[at];
                int pin = plan.firstPin(number);
                int first = valueOf(plan, pin);
                int second = plan.pinsOf(number) == 2 ? valueOf(plan, pin + 1) : UNKNOWN;
                value[SHIFT + number] = Logic.made(plan.kind[number], first, second);
            }
        }

        int outputs(Plan plan) {
            int answer = 0;
            for (int wire = WIRES - 1; wire >= FIRST_OUTPUT; wire--) {
                int shown = plan.source[wire] == NO_SOURCE ? NOT_WIRED : valueOf(plan, wire);
                answer = 4 * answer + shown;
            }
            return answer;
        }

        void shift(Plan plan) {
            for (int wire = 0; wire < WIRES; wire++) {
                if (state.length(wire) > 0) {
                    state.takeAtSink(wire);
                    state.putAtSource(wire, value[SHIFT + plan.source[wire]]);
                }
            }
        }

        private int valueOf(Plan plan, int wire) {
            return state.length(wire) > 0 ? state.read(wire, 0) : value[SHIFT + plan.source[wire]];
        }
    }

    /** What gates make of values, and which values they are given back. */
    private static final class Logic {
        static int made(int kind, int first, int second) {
            switch (kind) {
                case SAME:
                    return first;
                case NOT:
                    return opposite(first);
                case AND:
                    return ruled(0, first, second);
                case OR:
                    return ruled(1, first, second);
                default:
                    return first == UNKNOWN || second == UNKNOWN ? UNKNOWN : first ^ second;
            }
        }

        /** What a pin must have had for the gate to make the value. */
        static int needed(int kind, int pin, int value) {
            if (value == UNKNOWN) {
                return UNKNOWN;
            }
            switch (kind) {
                case SAME:
                    return value;
                case NOT:
                    return opposite(value);
                case AND:
                    return value == 0 && pin == 1 ? UNKNOWN : value;
                case OR:
                    return value == 1 && pin == 1 ? UNKNOWN : value;
                default:
                    return pin == 0 ? value : 0;
            }
        }

        private static int opposite(int value) {
            return value == UNKNOWN ? UNKNOWN : 1 - value;
        }

        /** AND and OR: one ruling value settles it alone. */
        private static int ruled(int ruling, int first, int second) {
            if (first == ruling || second == ruling) {
                return ruling;
            }
            return first == UNKNOWN || second == UNKNOWN ? UNKNOWN : 1 - ruling;
        }
    }
}
