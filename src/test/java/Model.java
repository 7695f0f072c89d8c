import java.math.BigInteger;
import java.util.ArrayDeque;
import java.util.ArrayList;
import java.util.Arrays;
import java.util.List;

/**
 * The same machine, written a second time in another way: the state is copied whole before each instruction,
 * so a parallel instruction reads the copy and a restoring one goes back to it. Only right calls are made of it.
 */
final class Model {
    private static final BigInteger WRAP = BigInteger.ONE.shiftLeft(64);

    static final class State {
        List<BigInteger> values = new ArrayList<>();
        List<Boolean> marks = new ArrayList<>();
        int[] memory = new int[4096];
        ArrayDeque<int[]> kept = new ArrayDeque<>();
        int level = 0;

        State copy() {
            State s = new State();
            s.values.addAll(values);
            s.marks.addAll(marks);
            s.memory = Arrays.copyOf(memory, 4096);
            s.kept = new ArrayDeque<>(kept);
            s.level = level;
            return s;
        }
    }

    private static final class Stop extends RuntimeException {
        private static final long serialVersionUID = 1;
        final int kind;

        Stop(int kind) {
            super(null, null, false, false);
            this.kind = kind;
        }
    }

    private record Transfer(int op, int a, int b, int to) {
    }

    private record Instruction(int mask, int value, int how, List<Transfer> rows) {
    }

    private record Bits(int from, int to, boolean sign) {
    }

    State now = new State();
    private final List<Integer> widths = new ArrayList<>();
    private final List<BigInteger> constants = new ArrayList<>();
    private final List<Bits> fields = new ArrayList<>();
    private final List<Transfer> loose = new ArrayList<>();
    private final List<Instruction> instructions = new ArrayList<>();
    private final boolean[] on = new boolean[8];
    private final int[] ranks = {1, 1, 1, 1, 1, 1, 1, 1};
    private BigInteger waiting = null;
    final int[] counts = new int[9];
    int halted = 0;
    int faultKind = 0;
    int faultPlace = 0;

    private int word;
    private State seen;
    private List<Runnable> later;
    private boolean placeWritten;
    private boolean stops;

    Model() {
        widths.add(16);
        now.values.add(BigInteger.ZERO);
        now.marks.add(false);
    }

    void register(int bits) {
        widths.add(bits);
        now.values.add(BigInteger.ZERO);
        now.marks.add(true);
    }

    void constant(long v) {
        constants.add(unsigned(v));
    }

    void field(int from, int to, boolean sign) {
        fields.add(new Bits(from, to, sign));
    }

    void transfer(int op, int a, int b, int to) {
        loose.add(new Transfer(op, a, b, to));
    }

    void instruction(int mask, int value, int how) {
        instructions.add(new Instruction(mask, value, how, new ArrayList<>(loose)));
        loose.clear();
    }

    void set(int register, long v) {
        put(register, unsigned(v), false);
        if (register == 0) {
            waiting = null;
        }
    }

    boolean line(int line, boolean nowOn) {
        boolean before = on[line];
        on[line] = nowOn;
        return before;
    }

    int enable(int line, int rank) {
        int before = ranks[line];
        ranks[line] = rank;
        return before;
    }

    int counter(int what) {
        return what == 6 ? now.level : what == 7 ? now.kept.size() : counts[what];
    }

    int step(int n) {
        int done = 0;
        while (done < n && halted == 0) {
            counts[0]++;
            done++;
            if (!interrupt()) {
                execute();
            }
        }
        return done;
    }

    private static BigInteger unsigned(long v) {
        return v < 0 ? BigInteger.valueOf(v).add(WRAP) : BigInteger.valueOf(v);
    }

    private void put(int register, BigInteger v, boolean marked) {
        now.values.set(register, v.mod(BigInteger.ONE.shiftLeft(widths.get(register))));
        now.marks.set(register, marked);
    }

    private int place() {
        return now.values.get(0).intValueExact();
    }

    private void placeAlone(int place) {
        put(0, BigInteger.valueOf(place), now.marks.get(0));
    }

    private boolean interrupt() {
        for (int rank = 14; rank > now.level; rank--) {
            for (int i = 0; i < 8; i++) {
                if (on[i] && ranks[i] == rank) {
                    if (now.kept.size() == 8) {
                        halted = 2;
                        return true;
                    }
                    counts[3]++;
                    now.kept.push(new int[] {place(), now.level});
                    now.level = rank;
                    put(0, BigInteger.valueOf(64 + 4 * i), false);
                    waiting = null;
                    return true;
                }
            }
        }
        return false;
    }

    private void execute() {
        int at = place();
        State before = now.copy();
        Instruction found = null;
        stops = false;
        try {
            if (at % 2 != 0 || at > 4095) {
                throw new Stop(2);
            }
            word = now.memory[at] + 256 * now.memory[at + 1];
            for (int i = instructions.size() - 1; i >= 0; i--) {
                if ((word & instructions.get(i).mask()) == instructions.get(i).value()) {
                    found = instructions.get(i);
                }
            }
            if (found == null) {
                throw new Stop(1);
            }
            run(found, at);
        } catch (Stop stop) {
            if (found != null && (found.how() & 2) != 0) {
                now = before;
                stops = false;
            }
            fail(stop.kind, at);
        }
        if (stops && halted == 0) {
            halted = 1;
        }
    }

    private void fail(int kind, int at) {
        counts[2]++;
        faultKind = kind;
        faultPlace = at;
        waiting = null;
        if (now.kept.size() == 8) {
            halted = 2;
            placeAlone(at);
            return;
        }
        now.kept.push(new int[] {at, now.level});
        now.level = 15;
        put(0, BigInteger.valueOf(4 * kind), false);
    }

    private void run(Instruction found, int at) {
        boolean parallel = (found.how() & 1) != 0;
        placeAlone(at + 2);
        seen = parallel ? now.copy() : null;
        later = parallel ? new ArrayList<>() : null;
        placeWritten = false;
        for (Transfer t : found.rows()) {
            counts[8]++;
            if (!act(t)) {
                break;
            }
        }
        if (parallel) {
            later.forEach(Runnable::run);
        }
        counts[1]++;
        if (placeWritten && (found.how() & 4) != 0) {
            waiting = now.values.get(0);
            placeAlone(at + 2);
        } else {
            if (!placeWritten && waiting != null) {
                placeAlone(waiting.intValueExact());
            }
            waiting = null;
        }
    }

    private State source() {
        return seen != null ? seen : now;
    }

    private BigInteger operand(int o) {
        if (o < 32) {
            return source().values.get(o);
        }
        if (o < 64) {
            return constants.get(o - 32);
        }
        Bits f = fields.get(o - 64);
        long v = 0;
        for (int bit = f.to(); bit >= f.from(); bit--) {
            v = 2 * v + (word >> bit & 1);
        }
        if (f.sign() && (word >> f.to() & 1) == 1) {
            v -= 1L << f.to() - f.from() + 1;
        }
        return unsigned(v);
    }

    private void write(Runnable r) {
        if (later != null) {
            later.add(r);
        } else {
            r.run();
        }
    }

    private int address(BigInteger address, boolean asWord) {
        if (address.compareTo(BigInteger.valueOf(4095)) > 0 || asWord && address.testBit(0)) {
            throw new Stop(3);
        }
        return address.intValueExact();
    }

    private boolean act(Transfer t) {
        BigInteger a = operand(t.a());
        BigInteger b = operand(t.b());
        switch (t.op()) {
            case 15, 16 -> store(t.op() == 16, a, b);
            case 17 -> {
                return a.signum() != 0;
            }
            case 18 -> {
                if (b.signum() != 0) {
                    throw new Stop(8 + a.mod(BigInteger.valueOf(8)).intValueExact());
                }
            }
            case 19 -> write(() -> now.marks.set(t.to(), true));
            case 20 -> {
                if (now.level == 0) {
                    throw new Stop(5);
                }
            }
            case 21 -> stops = true;
            case 22 -> back();
            default -> assign(t, compute(t.op(), a, b));
        }
        return true;
    }

    private void store(boolean asWord, BigInteger a, BigInteger b) {
        int at = address(a, asWord);
        int low = b.intValue() & 255;
        int high = b.intValue() >> 8 & 255;
        counts[5] += asWord ? 2 : 1;
        write(() -> {
            now.memory[at] = low;
            if (asWord) {
                now.memory[at + 1] = high;
            }
        });
    }

    private void back() {
        if (now.kept.isEmpty()) {
            throw new Stop(6);
        }
        int[] latest = now.kept.pop();
        put(0, BigInteger.valueOf(latest[0]), false);
        now.level = latest[1];
        placeWritten = true;
    }

    private void assign(Transfer t, BigInteger v) {
        boolean marked = t.a() < 32 && source().marks.get(t.a());
        if (t.op() != 0 && t.b() < 32 && source().marks.get(t.b())) {
            marked = true;
        }
        boolean m = marked;
        placeWritten |= t.to() == 0;
        write(() -> put(t.to(), v, m));
    }

    private BigInteger compute(int op, BigInteger a, BigInteger b) {
        boolean far = b.compareTo(BigInteger.valueOf(63)) > 0;
        if ((op == 4 || op == 5) && b.signum() == 0) {
            throw new Stop(4);
        }
        BigInteger v = switch (op) {
            case 0 -> a;
            case 1 -> a.add(b);
            case 2 -> a.subtract(b);
            case 3 -> a.multiply(b);
            case 4 -> a.divide(b);
            case 5 -> a.mod(b);
            case 6 -> a.and(b);
            case 7 -> a.or(b);
            case 8 -> a.xor(b);
            case 9 -> far ? BigInteger.ZERO : a.shiftLeft(b.intValueExact());
            case 10 -> far ? BigInteger.ZERO : a.shiftRight(b.intValueExact());
            case 11 -> a.compareTo(b) < 0 ? BigInteger.ONE : BigInteger.ZERO;
            case 12 -> a.equals(b) ? BigInteger.ONE : BigInteger.ZERO;
            default -> load(op == 14, a.add(b).mod(WRAP));
        };
        return v.mod(WRAP);
    }

    private BigInteger load(boolean asWord, BigInteger address) {
        int at = address(address, asWord);
        counts[4] += asWord ? 2 : 1;
        int[] memory = source().memory;
        return BigInteger.valueOf(asWord ? memory[at] + 256 * memory[at + 1] : memory[at]);
    }
}
