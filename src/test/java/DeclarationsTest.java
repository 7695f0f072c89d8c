/** Promises 1 to 6: a new object, register, constant, field, transfer, instruction. */
public final class DeclarationsTest {
    private static final Class<IllegalArgumentException> ARGUMENT = IllegalArgumentException.class;
    private static final Class<UnsupportedOperationException> FULL = UnsupportedOperationException.class;

    public static void main(String[] args) {
        newObject();
        registers();
        constants();
        fields();
        fieldValues();
        transfers();
        instructions();
        firstInstructionCounts();
        transfersBelongToTheNextInstruction();
        Checks.finish();
    }

    private static void newObject() {
        PlainSteps x = new PlainSteps();
        Checks.due("the place", x.get(0), 0);
        Checks.due("the place's mark", x.mark(0), false);
        Checks.dueThrow("register 1", IndexOutOfBoundsException.class, () -> x.get(1));
        Checks.due("set a wide place", x.set(0, 0x12345), 0);
        Checks.due("the place has 16 bits", x.get(0), 0x2345);
        for (int i = 0; i < 8; i++) {
            Checks.due("line " + i, x.line(i, false), false);
            Checks.due("rank " + i, x.enable(i, 1), 1);
        }
        for (int i = 0; i < 9; i++) {
            Checks.due("counter " + i, x.counter(i), 0);
        }
        for (int i = 0; i < 4096; i += 45) {
            Checks.due("byte " + i, x.byteAt(i), 0);
        }
        Checks.due("halted", x.halted(), 0);
        Checks.due("fault kind", x.fault(0), 0);
        Checks.due("fault place", x.fault(1), 0);
        x.set(0, 0);
        Checks.due("a step without instructions", x.step(1), 1);
        Checks.due("no instruction", x.fault(0), 1);
    }

    private static void registers() {
        PlainSteps x = new PlainSteps();
        for (int wrong : new int[] {0, 65, -1, Integer.MIN_VALUE, Integer.MAX_VALUE}) {
            Checks.dueThrow("register " + wrong, ARGUMENT, () -> x.register(wrong));
        }
        for (int i = 1; i < 24; i++) {
            int bits = i == 1 ? 1 : i == 2 ? 64 : 2 * i;
            Checks.due("number", x.register(bits), i);
            Checks.due("value of " + i, x.get(i), 0);
            Checks.due("mark of " + i, x.mark(i), true);
            x.set(i, -1);
            Checks.due("width of " + i, x.get(i), bits == 64 ? -1 : (1L << bits) - 1);
        }
        Checks.dueThrow("register 24", FULL, () -> x.register(8));
        Checks.dueThrow("wrong bits first", ARGUMENT, () -> x.register(65));
        Checks.dueThrow("none was made", IndexOutOfBoundsException.class, () -> x.get(24));
    }

    private static void constants() {
        PlainSteps x = new PlainSteps();
        for (int i = 0; i < 16; i++) {
            int number = i;
            Checks.dueThrow("before", ARGUMENT, () -> x.transfer(0, 32 + number, 0, 0));
            Checks.due("operand", x.constant(-i), 32 + i);
            Checks.due("behind", x.transfer(0, 32 + i, 0, 0), i + 1);
        }
        Checks.dueThrow("constant 17", FULL, () -> x.constant(1));
        Checks.due("negative constants have 64 bits", Checks.afterOne(0, -5, 0, 64).get(1), -5);
        Checks.due("and are cut", Checks.afterOne(0, -5, 0, 8).get(1), 251);
    }

    private static void fields() {
        PlainSteps x = new PlainSteps();
        int[][] wrong = {{-1, 3}, {0, 16}, {3, 2}, {16, 16}, {15, 0}, {-2, -1}, {Integer.MIN_VALUE, Integer.MAX_VALUE}};
        for (int[] w : wrong) {
            Checks.dueThrow("field " + w[0] + " " + w[1], ARGUMENT, () -> x.field(w[0], w[1], false));
        }
        for (int i = 0; i < 16; i++) {
            int number = i;
            Checks.dueThrow("before", ARGUMENT, () -> x.transfer(0, 0, 64 + number, 0));
            Checks.due("operand", x.field(i, i, i % 2 == 0), 64 + i);
            Checks.due("behind", x.transfer(0, 0, 64 + i, 0), i + 1);
        }
        Checks.dueThrow("field 17", FULL, () -> x.field(0, 15, true));
        Checks.dueThrow("wrong bits first", ARGUMENT, () -> x.field(0, 16, true));
    }

    private static void fieldValues() {
        due(0xabcd, 0, 15, false, 0xabcd);
        due(0xabcd, 0, 15, true, 0xabcd - 0x10000);
        due(0x7bcd, 0, 15, true, 0x7bcd);
        due(0xabcd, 4, 7, false, 0xc);
        due(0xabcd, 4, 7, true, -4);
        due(0xab4d, 4, 7, true, 4);
        due(0x8000, 15, 15, false, 1);
        due(0x8000, 15, 15, true, -1);
        due(0x0001, 0, 0, true, -1);
        due(0xfffe, 0, 0, true, 0);
        due(0xabcd, 8, 15, false, 0xab);
    }

    private static void due(int word, int from, int to, boolean sign, long want) {
        PlainSteps x = new PlainSteps();
        x.register(64);
        x.field(from, to, sign);
        x.transfer(0, 64, 0, 1);
        x.instruction(0, 0, 0);
        Checks.words(x, 0, word);
        x.step(1);
        Checks.due("bits " + from + " to " + to + " of " + word, x.get(1), want);
    }

    private static void transfers() {
        PlainSteps x = new PlainSteps();
        x.register(8);
        x.constant(1);
        x.field(0, 1, false);
        int[][] wrong = {
            {-1, 0, 0, 0}, {23, 0, 0, 0}, {Integer.MIN_VALUE, 0, 0, 0},
            {0, 2, 0, 0}, {0, 31, 0, 0}, {0, 33, 0, 0}, {0, 63, 0, 0}, {0, 65, 0, 0}, {0, -1, 0, 0},
            {0, Integer.MAX_VALUE, 0, 0}, {0, Integer.MIN_VALUE, 0, 0},
            {0, 0, 2, 0}, {0, 0, 33, 0}, {0, 0, 65, 0}, {0, 0, -1, 0}, {0, 0, Integer.MAX_VALUE, 0},
            {0, 0, 0, 2}, {0, 0, 0, 32}, {0, 0, 0, 64}, {0, 0, 0, -1}, {0, 0, 0, Integer.MAX_VALUE},
            {21, 2, 0, 0}, {21, 0, 2, 0}, {21, 0, 0, 2}};
        for (int[] w : wrong) {
            Checks.dueThrow("transfer " + w[0] + " " + w[1] + " " + w[2] + " " + w[3], ARGUMENT,
                    () -> x.transfer(w[0], w[1], w[2], w[3]));
        }
        for (int i = 0; i < 200; i++) {
            Checks.due("how many", x.transfer(i % 23, i % 2 == 0 ? 64 : 1, i % 3 == 0 ? 32 : 0, i % 2), i + 1);
        }
        Checks.dueThrow("transfer 201", FULL, () -> x.transfer(0, 0, 0, 0));
        Checks.dueThrow("a wrong one first", ARGUMENT, () -> x.transfer(23, 0, 0, 0));
    }

    private static void instructions() {
        PlainSteps x = new PlainSteps();
        int[][] wrong = {{-1, 0, 0}, {65536, 0, 0}, {65535, -1, 0}, {65535, 65536, 0}, {1, 2, 0}, {0, 1, 0},
            {0, 0, -1}, {0, 0, 8}, {Integer.MIN_VALUE, 0, 0}, {0, 0, Integer.MAX_VALUE}};
        for (int[] w : wrong) {
            Checks.dueThrow("instruction " + w[0] + " " + w[1] + " " + w[2], ARGUMENT,
                    () -> x.instruction(w[0], w[1], w[2]));
        }
        for (int i = 0; i < 40; i++) {
            Checks.due("number", x.instruction(65535, 65535 - i, i % 8), i);
        }
        Checks.dueThrow("instruction 41", FULL, () -> x.instruction(0, 0, 0));
        Checks.dueThrow("a wrong one first", ARGUMENT, () -> x.instruction(0, 0, 8));
    }

    private static void firstInstructionCounts() {
        PlainSteps x = new PlainSteps();
        x.register(8);
        x.constant(1);
        x.constant(2);
        x.constant(3);
        x.transfer(0, 32, 0, 1);
        x.instruction(0x8001, 0x8000, 0);
        x.transfer(0, 33, 0, 1);
        x.instruction(0x8000, 0x8000, 0);
        x.transfer(0, 34, 0, 1);
        x.instruction(0x8001, 0x8001, 0);
        Checks.words(x, 0, 0x8770, 0xffff, 0x7000);
        x.step(1);
        Checks.due("the first one that fits", x.get(1), 1);
        x.step(1);
        Checks.due("the second before the third", x.get(1), 2);
        x.step(1);
        Checks.due("none fits", x.fault(0), 1);
        Checks.due("told at its place", x.fault(1), 4);
    }

    private static void transfersBelongToTheNextInstruction() {
        PlainSteps x = new PlainSteps();
        x.register(8);
        x.constant(1);
        x.set(1, 0);
        x.transfer(1, 1, 32, 1);
        Checks.dueThrow("a refused one takes none", ARGUMENT, () -> x.instruction(1, 2, 0));
        x.transfer(1, 1, 32, 1);
        Checks.due("of two", x.instruction(0xff00, 0x100, 0), 0);
        Checks.due("of none", x.instruction(0xff00, 0x200, 0), 1);
        x.transfer(1, 1, 32, 1);
        Checks.due("of one", x.instruction(0xff00, 0x300, 0), 2);
        x.transfer(1, 1, 32, 1);
        Checks.words(x, 0, 0x100, 0x200, 0x300);
        x.step(1);
        Checks.due("two done", x.get(1), 2);
        x.step(1);
        Checks.due("none done", x.get(1), 2);
        x.step(1);
        Checks.due("one done", x.get(1), 3);
        Checks.due("transfers", x.counter(8), 3);
    }
}
