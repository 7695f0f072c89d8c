/**
 * Made-up runs of any calls with any arguments, right and wrong ones, in any order and state (behind a halt, too), of
 * PlainSteps and of Model side by side. What is refused, and how, is told here once more from the promises; a refused
 * call must leave everything as it was, which the answers behind it show.
 */
public final class AnyCallsTest {
    private static final int RUNS = 3000;
    private static final int MOST_CALLS = 450;
    private static final int METHODS = 16;
    private static final int[] EDGES = {Integer.MIN_VALUE, -65536, -2, -1, 0, 0, 1, 1, 2, 3, 4, 7, 8, 9, 14, 15, 16, 17,
        22, 23, 24, 31, 32, 47, 48, 63, 64, 65, 79, 80, 255, 256, 4094, 4095, 4096, 5000, 5001, 65535, 65536,
        Integer.MAX_VALUE};
    private static final Class<IllegalArgumentException> ARGUMENT = IllegalArgumentException.class;
    private static final Class<IllegalStateException> STATE = IllegalStateException.class;
    private static final Class<IndexOutOfBoundsException> INDEX = IndexOutOfBoundsException.class;
    private static final Class<UnsupportedOperationException> FULL = UnsupportedOperationException.class;

    private static final int[] REFUSED = new int[METHODS];
    private static final int[] FILLED = new int[METHODS];
    private static final int[] TAKEN = new int[METHODS];

    private final PlainSteps x = new PlainSteps();
    private final Model m = new Model();
    private final boolean careful;
    private final int favourite;
    private long seed;
    private String when;
    private int method;
    private int registers = 1;
    private int constants;
    private int fields;
    private int transfers;
    private int instructions;

    public static void main(String[] args) {
        for (int run = 0; run < RUNS; run++) {
            new AnyCallsTest(run).go(run);
        }
        for (int i = 0; i < METHODS; i++) {
            Checks.due("method " + i + " was taken", TAKEN[i] > 0, true);
            Checks.due("method " + i + " was refused", REFUSED[i] > 0, i != 15);
            Checks.due("method " + i + " was refused when all was full", FILLED[i] > 0, i < 5);
        }
        Checks.finish();
    }

    private AnyCallsTest(int run) {
        seed = run * 104729L + 5;
        careful = run % 2 == 0;
        favourite = run / 2 % METHODS;
    }

    private int pick(int below) {
        seed = seed * 6364136223846793005L + 1442695040888963407L;
        return (int) ((seed >>> 33) % below);
    }

    /** Mostly one of the right ones, 0 .. below - 1; else an edge, which may be right, too. */
    private int any(int below) {
        return pick(careful ? 24 : 4) == 0 ? EDGES[pick(EDGES.length)] : pick(below);
    }

    private int anyOperand() {
        int way = pick(4);
        if (way == 1 && constants > 0) {
            return 32 + any(constants);
        }
        return way == 2 && fields > 0 ? 64 + any(fields) : any(registers);
    }

    private void go(int run) {
        int calls = pick(MOST_CALLS);
        for (int i = 0; i < calls; i++) {
            when = "run " + run + ", call " + i;
            anyCall();
        }
        when = "run " + run + ", at its end";
        compare();
    }

    private void refused(Class<? extends RuntimeException> how, Checks.Call call) {
        REFUSED[method]++;
        FILLED[method] += how == FULL ? 1 : 0;
        Checks.dueThrow(when + ", method " + method, how, call);
    }

    private void taken(long got, long want) {
        TAKEN[method]++;
        Checks.due(when + ", method " + method, got, want);
    }

    private void anyCall() {
        method = pick(3) != 0 ? favourite : pick(METHODS);
        switch (method) {
            case 0 -> register(1 + any(64));
            case 1 -> constant(pick(3) == 0 ? (long) pick(1 << 30) << 33 | pick(1 << 30) : EDGES[pick(EDGES.length)]);
            case 2 -> field(any(16), any(16), pick(2) == 0);
            case 3 -> transfer(any(23), anyOperand(), anyOperand(), any(registers));
            case 4 -> instruction();
            case 5 -> memory(any(128), any(256));
            case 6 -> byteAt(any(128));
            case 7 -> step(any(5));
            case 8 -> set(any(registers), EDGES[pick(EDGES.length)]);
            case 9 -> get(any(registers + 1));
            case 10 -> mark(any(registers + 1));
            case 11 -> line(any(8), pick(3) == 0);
            case 12 -> enable(any(8), any(15));
            case 13 -> fault(any(2));
            case 14 -> counter(any(9));
            default -> taken(x.halted(), m.halted);
        }
    }

    private void register(int bits) {
        if (bits < 1 || bits > 64) {
            refused(ARGUMENT, () -> x.register(bits));
        } else if (registers == 24) {
            refused(FULL, () -> x.register(bits));
        } else {
            taken(x.register(bits), registers);
            m.register(bits);
            registers++;
        }
    }

    private void constant(long v) {
        if (constants == 16) {
            refused(FULL, () -> x.constant(v));
        } else {
            taken(x.constant(v), 32 + constants);
            m.constant(v);
            constants++;
        }
    }

    private void field(int from, int to, boolean sign) {
        if (from < 0 || from > 15 || to < 0 || to > 15 || from > to) {
            refused(ARGUMENT, () -> x.field(from, to, sign));
        } else if (fields == 16) {
            refused(FULL, () -> x.field(from, to, sign));
        } else {
            taken(x.field(from, to, sign), 64 + fields);
            m.field(from, to, sign);
            fields++;
        }
    }

    private boolean isOperand(int o) {
        return o >= 0 && o < registers || o >= 32 && o < 32 + constants || o >= 64 && o < 64 + fields;
    }

    private void transfer(int op, int a, int b, int to) {
        if (op < 0 || op > 22 || !isOperand(a) || !isOperand(b) || to < 0 || to >= registers) {
            refused(ARGUMENT, () -> x.transfer(op, a, b, to));
        } else if (transfers == 200) {
            refused(FULL, () -> x.transfer(op, a, b, to));
        } else {
            transfers++;
            taken(x.transfer(op, a, b, to), transfers);
            m.transfer(op, a, b, to);
        }
    }

    private void instruction() {
        int mask = pick(4) == 0 ? any(65536) : 1 << pick(16) | 1 << pick(16);
        int value = pick(8) == 0 ? any(65536) : mask & pick(65536);
        int how = any(8);
        boolean bits = mask >= 0 && mask <= 65535 && value >= 0 && value <= 65535 && (mask | value) == mask;
        if (!bits || how < 0 || how > 7) {
            refused(ARGUMENT, () -> x.instruction(mask, value, how));
        } else if (instructions == 40) {
            refused(FULL, () -> x.instruction(mask, value, how));
        } else {
            taken(x.instruction(mask, value, how), instructions);
            m.instruction(mask, value, how);
            instructions++;
        }
    }

    private void memory(int at, int b) {
        if (at < 0 || at > 4095) {
            refused(INDEX, () -> x.memory(at, b));
        } else if (b < 0 || b > 255) {
            refused(ARGUMENT, () -> x.memory(at, b));
        } else {
            taken(x.memory(at, b), m.now.memory[at]);
            m.now.memory[at] = b;
        }
    }

    private void byteAt(int at) {
        if (at < 0 || at > 4095) {
            refused(INDEX, () -> x.byteAt(at));
        } else {
            taken(x.byteAt(at), m.now.memory[at]);
        }
    }

    private void step(int n) {
        if (n < 1 || n > 5000) {
            refused(ARGUMENT, () -> x.step(n));
        } else if (m.halted != 0) {
            refused(STATE, () -> x.step(n));
        } else {
            taken(x.step(n), m.step(n));
        }
    }

    private void set(int register, long v) {
        if (register < 0 || register >= registers) {
            refused(INDEX, () -> x.set(register, v));
        } else {
            taken(x.set(register, v), m.now.values.get(register).longValue());
            m.set(register, v);
        }
    }

    private void get(int register) {
        if (register < 0 || register >= registers) {
            refused(INDEX, () -> x.get(register));
        } else {
            taken(x.get(register), m.now.values.get(register).longValue());
        }
    }

    private void mark(int register) {
        if (register < 0 || register >= registers) {
            refused(INDEX, () -> x.mark(register));
        } else {
            taken(x.mark(register) ? 1 : 0, m.now.marks.get(register) ? 1 : 0);
        }
    }

    private void line(int line, boolean on) {
        if (line < 0 || line > 7) {
            refused(INDEX, () -> x.line(line, on));
        } else {
            taken(x.line(line, on) ? 1 : 0, m.line(line, on) ? 1 : 0);
        }
    }

    private void enable(int line, int rank) {
        if (line < 0 || line > 7) {
            refused(INDEX, () -> x.enable(line, rank));
        } else if (rank < 0 || rank > 14) {
            refused(ARGUMENT, () -> x.enable(line, rank));
        } else {
            taken(x.enable(line, rank), m.enable(line, rank));
        }
    }

    private void fault(int what) {
        if (what < 0 || what > 1) {
            refused(INDEX, () -> x.fault(what));
        } else {
            taken(x.fault(what), what == 0 ? m.faultKind : m.faultPlace);
        }
    }

    private void counter(int what) {
        if (what < 0 || what > 8) {
            refused(INDEX, () -> x.counter(what));
        } else {
            taken(x.counter(what), m.counter(what));
        }
    }

    private void compare() {
        for (int r = 0; r < registers; r++) {
            Checks.due(when + ", register " + r, x.get(r), m.now.values.get(r).longValue());
            Checks.due(when + ", mark " + r, x.mark(r), m.now.marks.get(r));
        }
        for (int i = 0; i < 9; i++) {
            Checks.due(when + ", counter " + i, x.counter(i), m.counter(i));
        }
        Checks.due(when + ", halted", x.halted(), m.halted);
        Checks.due(when + ", fault", x.fault(0), m.faultKind);
        Checks.due(when + ", its place", x.fault(1), m.faultPlace);
    }
}
