/**
 * Many made-up runs of calls, of PlainSteps and of Model side by side. Runs are of all lengths and the whole state
 * is compared at each one's end alone, since an object promises nothing behind its 512th call.
 */
public final class ModelTest {
    private static final int RUNS = 20000;
    private static final int FILLED = 120;
    private static final int MOST_LOOKS = 40;
    private static final long[] VALUES = {0, 0, 1, 1, 2, 3, 4, 7, 8, 63, 64, 65, 200, 202, 255, 256, 300, 4094, 4095,
        4096, 65535, 1L << 32, -1, -2, -3, Long.MIN_VALUE, Long.MAX_VALUE, 0x123456789abcdefL};

    private long seed;
    private PlainSteps x;
    private Model m;
    private int registers;
    private int constants;
    private int fields;

    public static void main(String[] args) {
        int[] seen = new int[18];
        for (int run = 0; run < RUNS; run++) {
            new ModelTest(run).go(run, seen);
        }
        for (int kind = 1; kind < 16; kind++) {
            Checks.due("runs saw fault " + kind, seen[kind] > 0 || kind == 7, true);
        }
        Checks.due("runs halted with 1", seen[16] > 0, true);
        Checks.due("runs halted with 2", seen[17] > 0, true);
        Checks.finish();
    }

    private ModelTest(int run) {
        seed = run * 7919L + 17;
        x = new PlainSteps();
        m = new Model();
        registers = 1;
    }

    /** A plain congruent row of numbers, so that every run is the same each time. */
    private int pick(int below) {
        seed = seed * 6364136223846793005L + 1442695040888963407L;
        return (int) ((seed >>> 33) % below);
    }

    private long value() {
        int way = pick(4);
        if (way == 0) {
            return (long) pick(1 << 30) << 34 ^ (long) pick(1 << 30) << 10 ^ pick(1 << 20);
        }
        return way == 1 ? pick(300) : VALUES[pick(VALUES.length)];
    }

    private int operand() {
        int way = pick(10);
        if (way < 3 && constants > 0) {
            return 32 + pick(constants);
        }
        if (way < 5 && fields > 0) {
            return 64 + pick(fields);
        }
        return pick(3) == 0 ? 0 : pick(registers);
    }

    private void go(int run, int[] seen) {
        declare();
        int rounds = pick(60);
        for (int i = 0; i < rounds && m.halted == 0; i++) {
            oneCall("run " + run + ", round " + i);
        }
        compare("run " + run);
        compareMemory("run " + run);
        seen[m.faultKind]++;
        seen[m.halted == 0 ? 0 : 15 + m.halted]++;
    }

    private void compareMemory(String when) {
        for (int at = 0; at < FILLED; at++) {
            Checks.due(when + ", byte " + at, x.byteAt(at), m.now.memory[at]);
        }
        int looks = 0;
        for (int at = FILLED; at < 4096 && looks < MOST_LOOKS; at++) {
            if (m.now.memory[at] != 0 || pick(400) == 0) {
                Checks.due(when + ", byte " + at, x.byteAt(at), m.now.memory[at]);
                looks++;
            }
        }
    }

    private void declare() {
        int more = 1 + pick(6);
        for (int i = 0; i < more; i++) {
            int bits = pick(2) == 0 ? 64 : 1 + pick(64);
            x.register(bits);
            m.register(bits);
            registers++;
        }
        constants = 1 + pick(6);
        for (int i = 0; i < constants; i++) {
            long v = value();
            x.constant(v);
            m.constant(v);
        }
        fields = pick(4);
        for (int i = 0; i < fields; i++) {
            int from = pick(16);
            int to = from + pick(16 - from);
            boolean sign = pick(2) == 0;
            x.field(from, to, sign);
            m.field(from, to, sign);
        }
        int instructions = 1 + pick(10);
        for (int i = 0; i < instructions; i++) {
            declareInstruction();
        }
        for (int at = 0; at < FILLED; at++) {
            int b = pick(256);
            x.memory(at, b);
            m.now.memory[at] = b;
        }
    }

    private void declareInstruction() {
        int rows = pick(7);
        for (int i = 0; i < rows; i++) {
            int op = pick(3) == 0 ? 15 + pick(8) : pick(23);
            if (op == 21 && pick(4) != 0) {
                op = 22;
            }
            int a = operand();
            int b = operand();
            int to = pick(4) == 0 ? 0 : pick(registers);
            x.transfer(op, a, b, to);
            m.transfer(op, a, b, to);
        }
        int mask = 1 << pick(16) | 1 << pick(16);
        int value = mask & pick(65536);
        int how = pick(8);
        x.instruction(mask, value, how);
        m.instruction(mask, value, how);
    }

    private void oneCall(String when) {
        int way = pick(12);
        if (way == 0) {
            int r = pick(registers);
            long v = r == 0 ? 2 * pick(FILLED / 2) : value();
            Checks.due(when + " set", x.set(r, v), m.now.values.get(r).longValue());
            m.set(r, v);
        } else if (way == 1) {
            int line = pick(8);
            boolean on = pick(3) == 0;
            Checks.due(when + " line", x.line(line, on), m.line(line, on));
        } else if (way == 2) {
            int line = pick(8);
            int rank = pick(15);
            Checks.due(when + " enable", x.enable(line, rank), m.enable(line, rank));
        } else if (way == 3) {
            int at = pick(FILLED);
            int b = pick(256);
            Checks.due(when + " memory", x.memory(at, b), m.now.memory[at]);
            m.now.memory[at] = b;
        } else {
            int n = way == 4 ? 1 + pick(30) : 1;
            Checks.due(when + " step", x.step(n), m.step(n));
        }
    }

    private void compare(String when) {
        for (int r = 0; r < registers; r++) {
            Checks.due(when + ", register " + r, x.get(r), m.now.values.get(r).longValue());
            Checks.due(when + ", mark " + r, x.mark(r), m.now.marks.get(r));
        }
        for (int i = 0; i < 9; i++) {
            Checks.due(when + ", counter " + i, x.counter(i), m.counter(i));
        }
        Checks.due(when + ", halted", x.halted(), m.halted);
        Checks.due(when + ", fault", x.fault(0), m.faultKind);
        Checks.due(when + ", its place", x.fault(1), m.faultPlace);
    }
}
