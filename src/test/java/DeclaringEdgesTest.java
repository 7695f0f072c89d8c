/** Promises 1 to 6, and the terms on registers and operands: a test for each sentence that names an edge. */
public final class DeclaringEdgesTest {
    private static final Class<IllegalArgumentException> ARGUMENT = IllegalArgumentException.class;
    private static final Class<UnsupportedOperationException> FULL = UnsupportedOperationException.class;
    private static final Class<IndexOutOfBoundsException> INDEX = IndexOutOfBoundsException.class;
    private static final int LOWEST = Integer.MIN_VALUE;
    private static final int HIGHEST = Integer.MAX_VALUE;

    public static void main(String[] args) {
        theConstant();
        newPlaceAlone();
        newWithoutInstructions();
        newLinesOff();
        newRanks();
        newLevel();
        objectsApart();
        registerMore();
        registerNarrowest();
        registerWidest();
        registerWrongBits();
        registersFull();
        registerExceptionsInOrder();
        constantMore();
        constantExtremes();
        constantsFull();
        fieldMore();
        fieldNarrowestAndWidest();
        fieldSign();
        fieldWrongBits();
        fieldsFull();
        fieldExceptionsInOrder();
        operandNumbers();
        operandsThatAreFull();
        transferMore();
        transferWrongOp();
        transferWrongOperands();
        transferWrongRegister();
        transferUnusedOperands();
        transferOfLaterDeclared();
        transfersFull();
        transferExceptionsInOrder();
        instructionMore();
        instructionOfAllTransfersBehind();
        instructionOfNone();
        instructionBits();
        instructionFirstCounts();
        instructionWrongMaskOrValue();
        instructionValueOutsideMask();
        instructionWrongHow();
        instructionsFull();
        instructionRefusedTakesNone();
        instructionExceptionsInOrder();
        Checks.finish();
    }

    private static void theConstant() {
        Checks.sentence("NONE = -1: Nothing there");
        Checks.due("NONE", PlainSteps.NONE, -1);
    }

    private static void newPlaceAlone() {
        Checks.sentence("1: The place alone, 0");
        PlainSteps x = new PlainSteps();
        Checks.due("the place", x.get(0), 0);
        Checks.dueThrow("a register 1", INDEX, () -> x.get(1));
        Checks.dueThrow("its mark", INDEX, () -> x.mark(1));
        Checks.dueThrow("its set", INDEX, () -> x.set(1, 0));
        Checks.dueThrow("a transfer from it", ARGUMENT, () -> x.transfer(0, 1, 0, 0));
        Checks.dueThrow("a transfer to it", ARGUMENT, () -> x.transfer(0, 0, 0, 1));
        Checks.dueThrow("a constant", ARGUMENT, () -> x.transfer(0, 32, 0, 0));
        Checks.dueThrow("a field", ARGUMENT, () -> x.transfer(0, 64, 0, 0));
        Checks.due("the first transfer", x.transfer(0, 0, 0, 0), 1);
    }

    private static void newWithoutInstructions() {
        Checks.sentence("1: no instructions");
        for (int word : new int[] {0, 1, 0x8000, 0xffff}) {
            PlainSteps x = new PlainSteps();
            Checks.words(x, 0, word);
            Checks.due("a step", x.step(1), 1);
            Checks.due("the fault of word " + word, x.fault(0), 1);
            Checks.due("instructions done", x.counter(1), 0);
            Checks.due("the first one's number", x.instruction(0, 0, 0), 0);
        }
    }

    private static void newLinesOff() {
        Checks.sentence("1: lines off");
        for (int i = 0; i < 8; i++) {
            PlainSteps x = new PlainSteps();
            x.enable(i, 14);
            x.step(1);
            Checks.due("no interrupt of " + i, x.counter(3), 0);
            Checks.due("line " + i + " was off", x.line(i, true), false);
        }
    }

    private static void newRanks() {
        Checks.sentence("1: each with rank 1");
        for (int i = 0; i < 8; i++) {
            PlainSteps x = new PlainSteps();
            x.line(i, true);
            x.step(1);
            Checks.due("an interrupt of " + i, x.get(0), 64 + 4 * i);
            Checks.due("the level", x.counter(6), 1);
            Checks.due("the rank of " + i, x.enable(i, 14), 1);
        }
    }

    private static void newLevel() {
        Checks.sentence("1: level 0");
        PlainSteps x = new PlainSteps();
        Checks.due("the level", x.counter(6), 0);
        Checks.define(x, 0, 0, Checks.row(20, 0, 0, 0));
        x.step(1);
        Checks.due("20 finds level 0", x.fault(0), 5);
    }

    private static void objectsApart() {
        Checks.sentence("1: A new object, also behind another one");
        PlainSteps x = Checks.ready();
        x.memory(0, 9);
        x.line(3, true);
        x.enable(3, 14);
        x.instruction(0, 0, 0);
        x.step(1);
        PlainSteps y = new PlainSteps();
        Checks.due("its place", y.get(0), 0);
        Checks.due("its memory", y.byteAt(0), 0);
        Checks.due("its line", y.line(3, false), false);
        Checks.due("its rank", y.enable(3, 1), 1);
        Checks.due("its level", y.counter(6), 0);
        Checks.due("its register", y.register(8), 1);
        Checks.due("its constant", y.constant(3), 32);
        Checks.due("its field", y.field(0, 0, false), 64);
        Checks.due("its transfer", y.transfer(0, 0, 0, 0), 1);
        Checks.due("its instruction", y.instruction(0, 0, 0), 0);
        Checks.due("the other's level", x.counter(6), 14);
    }

    private static void registerMore() {
        Checks.sentence("2: A register more, 0, with a mark: its number");
        PlainSteps x = new PlainSteps();
        for (int i = 1; i < 24; i++) {
            Checks.due("number", x.register(i), i);
            Checks.due("value of " + i, x.get(i), 0);
            Checks.due("mark of " + i, x.mark(i), true);
            x.set(i, 1);
        }
        Checks.due("the first keeps its value", x.get(1), 1);
        Checks.due("the place has no part in it", x.get(0), 0);
    }

    private static void registerNarrowest() {
        Checks.sentence("2: 1 .. 64: 1 bit");
        PlainSteps x = new PlainSteps();
        Checks.due("number", x.register(1), 1);
        x.set(1, -2);
        Checks.due("an even value", x.get(1), 0);
        x.set(1, -1);
        Checks.due("an odd value", x.get(1), 1);
    }

    private static void registerWidest() {
        Checks.sentence("2: 1 .. 64: 64 bits");
        PlainSteps x = new PlainSteps();
        Checks.due("number", x.register(64), 1);
        Checks.due("the next narrower one", x.register(63), 2);
        for (long v : new long[] {-1, Long.MIN_VALUE, Long.MAX_VALUE}) {
            x.set(1, v);
            x.set(2, v);
            Checks.due("64 bits of " + v, x.get(1), v);
            Checks.due("63 bits of " + v, x.get(2), v & Long.MAX_VALUE);
        }
    }

    private static void registerWrongBits() {
        Checks.sentence("2: IllegalArgumentException, when bits are not 1 .. 64");
        PlainSteps x = new PlainSteps();
        for (int bits : new int[] {0, -1, 65, LOWEST, HIGHEST}) {
            Checks.dueThrow("bits " + bits, ARGUMENT, () -> x.register(bits));
        }
        Checks.dueThrow("none was made", INDEX, () -> x.get(1));
        Checks.due("no number was used", x.register(8), 1);
    }

    private static void registersFull() {
        Checks.sentence("2: UnsupportedOperationException, when there are 24");
        PlainSteps x = new PlainSteps();
        for (int i = 1; i < 23; i++) {
            x.register(8);
        }
        Checks.due("the last one", x.register(8), 23);
        x.set(23, 77);
        Checks.dueThrow("one more", FULL, () -> x.register(8));
        Checks.dueThrow("and again", FULL, () -> x.register(1));
        Checks.dueThrow("there is no 24", INDEX, () -> x.get(24));
        Checks.due("the last one's value", x.get(23), 77);
        Checks.due("the last one's mark", x.mark(23), false);
    }

    private static void registerExceptionsInOrder() {
        Checks.sentence("Of several exceptions the first one told is thrown: register");
        PlainSteps x = new PlainSteps();
        for (int i = 1; i < 24; i++) {
            x.register(8);
        }
        for (int bits : new int[] {0, -1, 65}) {
            Checks.dueThrow("bits " + bits + " of a full one", ARGUMENT, () -> x.register(bits));
        }
    }

    private static void constantMore() {
        Checks.sentence("3: A constant more: its operand");
        PlainSteps x = new PlainSteps();
        x.register(64);
        for (int i = 0; i < 16; i++) {
            Checks.due("operand", x.constant(100 + i), 32 + i);
            x.transfer(0, 32 + i, 0, 1);
            x.instruction(0xffff, i, 0);
        }
        for (int i = 0; i < 16; i++) {
            Checks.words(x, 2 * i, i);
            x.step(1);
            Checks.due("constant " + i, x.get(1), 100 + i);
        }
    }

    private static void constantExtremes() {
        Checks.sentence("3: A constant of any long");
        for (long v : new long[] {0, 1, -1, Long.MIN_VALUE, Long.MAX_VALUE, 1L << 32, 65536}) {
            Checks.due("constant " + v, Checks.afterOne(0, v, 0, 64).get(1), v);
        }
    }

    private static void constantsFull() {
        Checks.sentence("3: UnsupportedOperationException, when there are 16");
        PlainSteps x = new PlainSteps();
        x.register(64);
        for (int i = 0; i < 15; i++) {
            x.constant(i);
        }
        Checks.due("the last one", x.constant(15), 47);
        Checks.dueThrow("one more", FULL, () -> x.constant(99));
        Checks.dueThrow("the same one again", FULL, () -> x.constant(15));
        Checks.dueThrow("there is no operand 48", ARGUMENT, () -> x.transfer(0, 48, 0, 1));
        Checks.define(x, 0, 0, Checks.row(0, 47, 0, 1));
        x.step(1);
        Checks.due("the last one's value", x.get(1), 15);
    }

    private static void fieldMore() {
        Checks.sentence("4: A field more: its operand");
        PlainSteps x = new PlainSteps();
        x.register(64);
        for (int i = 0; i < 16; i++) {
            Checks.due("operand", x.field(0, i, false), 64 + i);
            x.transfer(0, 64 + i, 0, 1);
            x.instruction(0xffff, 0xffff - i, 0);
        }
        for (int i = 0; i < 16; i++) {
            Checks.words(x, 2 * i, 0xffff - i);
            x.step(1);
            Checks.due("field " + i, x.get(1), 0xffff - i & (1 << i + 1) - 1);
        }
    }

    private static long fieldOf(int word, int from, int to, boolean sign) {
        PlainSteps x = new PlainSteps();
        x.register(64);
        x.field(from, to, sign);
        x.transfer(0, 64, 0, 1);
        x.instruction(0, 0, 0);
        Checks.words(x, 0, word);
        x.step(1);
        return x.get(1);
    }

    private static void fieldNarrowestAndWidest() {
        Checks.sentence("4: bits of 0 .. 15");
        Checks.due("bit 0", fieldOf(0x0001, 0, 0, false), 1);
        Checks.due("not bit 0", fieldOf(0xfffe, 0, 0, false), 0);
        Checks.due("bit 15", fieldOf(0x8000, 15, 15, false), 1);
        Checks.due("not bit 15", fieldOf(0x7fff, 15, 15, false), 0);
        Checks.due("bits 14 and 15", fieldOf(0xbfff, 14, 15, false), 2);
        Checks.due("bits 0 to 15", fieldOf(0xfedc, 0, 15, false), 0xfedc);
        Checks.due("bits 7 to 8", fieldOf(0xfe7f, 7, 8, false), 0);
        Checks.due("bits 7 to 8 of others", fieldOf(0x0180, 7, 8, false), 3);
    }

    private static void fieldSign() {
        Checks.sentence("Terms: bits from to to of the instruction's word, with or without sign");
        Checks.due("one bit with sign", fieldOf(0x8000, 15, 15, true), -1);
        Checks.due("one bit without", fieldOf(0x8000, 15, 15, false), 1);
        Checks.due("a lowest bit with sign", fieldOf(0x0001, 0, 0, true), -1);
        Checks.due("none with sign", fieldOf(0xfffe, 0, 0, true), 0);
        Checks.due("16 bits with sign", fieldOf(0x8000, 0, 15, true), -32768);
        Checks.due("16 bits without", fieldOf(0x8000, 0, 15, false), 32768);
        Checks.due("the greatest with sign", fieldOf(0x7fff, 0, 15, true), 32767);
        Checks.due("4 bits with sign", fieldOf(0xf0ff, 8, 11, true), 0);
        Checks.due("the lowest of 4 bits", fieldOf(0xf8ff, 8, 11, true), -8);
        Checks.due("the greatest of 4 bits", fieldOf(0xf7ff, 8, 11, true), 7);
        Checks.due("-1 of 4 bits", fieldOf(0x0f00, 8, 11, true), -1);
    }

    private static void fieldWrongBits() {
        Checks.sentence("4: IllegalArgumentException, when from to to are no bits of 0 .. 15");
        PlainSteps x = new PlainSteps();
        int[][] wrong = {{-1, 0}, {-1, 15}, {-1, -1}, {0, 16}, {15, 16}, {16, 16}, {1, 0}, {15, 14}, {15, 0}, {0, -1},
            {LOWEST, 0}, {0, HIGHEST}, {LOWEST, HIGHEST}, {HIGHEST, LOWEST}, {0, LOWEST}, {HIGHEST, 15}};
        for (int[] w : wrong) {
            Checks.dueThrow("field " + w[0] + ", " + w[1], ARGUMENT, () -> x.field(w[0], w[1], false));
            Checks.dueThrow("with sign " + w[0] + ", " + w[1], ARGUMENT, () -> x.field(w[0], w[1], true));
        }
        Checks.dueThrow("none was made", ARGUMENT, () -> x.transfer(0, 64, 0, 0));
        Checks.due("no number was used", x.field(15, 15, true), 64);
    }

    private static void fieldsFull() {
        Checks.sentence("4: UnsupportedOperationException, when there are 16");
        PlainSteps x = new PlainSteps();
        x.register(64);
        for (int i = 0; i < 15; i++) {
            x.field(0, 0, false);
        }
        Checks.due("the last one", x.field(4, 11, false), 79);
        Checks.dueThrow("one more", FULL, () -> x.field(0, 15, false));
        Checks.dueThrow("the same one again", FULL, () -> x.field(4, 11, false));
        Checks.dueThrow("there is no operand 80", ARGUMENT, () -> x.transfer(0, 80, 0, 1));
        x.transfer(0, 79, 0, 1);
        x.instruction(0, 0, 0);
        Checks.words(x, 0, 0x5ab6);
        x.step(1);
        Checks.due("the last one's bits", x.get(1), 0xab);
    }

    private static void fieldExceptionsInOrder() {
        Checks.sentence("Of several exceptions the first one told is thrown: field");
        PlainSteps x = new PlainSteps();
        for (int i = 0; i < 16; i++) {
            x.field(0, i, false);
        }
        int[][] wrong = {{-1, 0}, {0, 16}, {1, 0}};
        for (int[] w : wrong) {
            Checks.dueThrow("field " + w[0] + ", " + w[1], ARGUMENT, () -> x.field(w[0], w[1], false));
        }
    }

    private static void operandNumbers() {
        Checks.sentence("Terms: registers (by their numbers), constants (by 32 and more), fields (by 64 and more)");
        long[][] wants = {{0, 2}, {1, 7}, {32, 70}, {33, 71}, {64, 5}, {65, 9}};
        for (long[] want : wants) {
            PlainSteps y = operandsRead((int) want[0]);
            Checks.due("operand " + want[0] + " as a", y.get(2), want[1]);
            Checks.due("operand " + want[0] + " as b", y.get(3), want[1]);
        }
    }

    /** The sum with 0 of one operand, as a in register 2 and as b in register 3. */
    private static PlainSteps operandsRead(int operand) {
        PlainSteps x = new PlainSteps();
        x.register(64);
        x.register(64);
        x.register(64);
        x.set(1, 7);
        x.constant(70);
        x.constant(71);
        x.constant(0);
        x.field(0, 3, false);
        x.field(4, 7, false);
        x.transfer(1, operand, 34, 2);
        x.transfer(1, 34, operand, 3);
        x.instruction(0, 0, 0);
        Checks.words(x, 0, 0x0095);
        x.step(1);
        return x;
    }

    /** All that there can be; each has a value of its own. */
    private static PlainSteps fullOfOperands() {
        PlainSteps x = new PlainSteps();
        for (int i = 1; i < 24; i++) {
            x.register(64);
            x.set(i, 1000 + i);
        }
        for (int i = 0; i < 16; i++) {
            x.constant(2000 + i);
            x.field(i, i, false);
        }
        return x;
    }

    private static void operandsThatAreFull() {
        Checks.sentence("Terms: REGISTERS 0 .. 23, CONSTANTS 0 .. 15, FIELDS 0 .. 15");
        PlainSteps x = fullOfOperands();
        for (int none : new int[] {-1, 24, 31, 48, 63, 80, 96, 128}) {
            Checks.dueThrow("a " + none, ARGUMENT, () -> x.transfer(0, none, 0, 1));
            Checks.dueThrow("b " + none, ARGUMENT, () -> x.transfer(0, 0, none, 1));
            Checks.dueThrow("to " + none, ARGUMENT, () -> x.transfer(0, 0, 0, none));
        }
        x.transfer(0, 47, 0, 23);
        x.transfer(1, 23, 79, 22);
        x.transfer(1, 47, 23, 21);
        x.instruction(0, 0, 0);
        Checks.words(x, 0, 0x8000);
        x.step(1);
        Checks.due("the last constant", x.get(23), 2015);
        Checks.due("the last field", x.get(22), 2016);
        Checks.due("the last register", x.get(21), 4030);
        Checks.due("the one before is as it was", x.get(20), 1020);
    }

    private static void transferMore() {
        Checks.sentence("5: A transfer behind the others: how many there are");
        PlainSteps x = Checks.ready();
        for (int op = 0; op <= 22; op++) {
            Checks.due("with op " + op, x.transfer(op, 1, 32, 2), op + 1);
        }
        x.instruction(0, 0, 0);
        Checks.due("those of instructions count, too", x.transfer(0, 0, 0, 0), 24);
    }

    private static void transferWrongOp() {
        Checks.sentence("5: IllegalArgumentException, when there is no such op");
        PlainSteps x = new PlainSteps();
        for (int op : new int[] {-1, 23, LOWEST, HIGHEST}) {
            Checks.dueThrow("op " + op, ARGUMENT, () -> x.transfer(op, 0, 0, 0));
        }
        Checks.due("the lowest one, and none was made", x.transfer(0, 0, 0, 0), 1);
        Checks.due("the highest one", x.transfer(22, 0, 0, 0), 2);
    }

    private static void transferWrongOperands() {
        Checks.sentence("5: IllegalArgumentException, when there is no such operand");
        PlainSteps x = new PlainSteps();
        x.register(8);
        x.constant(1);
        x.field(0, 0, false);
        for (int none : new int[] {-1, 2, 23, 24, 31, 33, 47, 48, 63, 65, 79, 80, LOWEST, HIGHEST}) {
            Checks.dueThrow("a " + none, ARGUMENT, () -> x.transfer(1, none, 0, 0));
            Checks.dueThrow("b " + none, ARGUMENT, () -> x.transfer(1, 0, none, 0));
        }
        int made = 0;
        for (int some : new int[] {0, 1, 32, 64}) {
            Checks.due("a " + some, x.transfer(1, some, 0, 0), made + 1);
            Checks.due("b " + some, x.transfer(1, 0, some, 0), made + 2);
            made += 2;
        }
    }

    private static void transferWrongRegister() {
        Checks.sentence("5: IllegalArgumentException, when there is no such register");
        PlainSteps x = new PlainSteps();
        x.register(8);
        x.constant(1);
        x.field(0, 0, false);
        for (int none : new int[] {-1, 2, 23, 24, 32, 64, LOWEST, HIGHEST}) {
            Checks.dueThrow("to " + none, ARGUMENT, () -> x.transfer(1, 0, 0, none));
        }
        Checks.due("to the place", x.transfer(1, 0, 0, 0), 1);
        Checks.due("to register 1", x.transfer(1, 0, 0, 1), 2);
    }

    private static void transferUnusedOperands() {
        Checks.sentence("5: (those that the op does not use, too)");
        PlainSteps x = new PlainSteps();
        for (int op : new int[] {19, 20, 21, 22}) {
            Checks.dueThrow("a of " + op, ARGUMENT, () -> x.transfer(op, 1, 0, 0));
        }
        for (int op : new int[] {0, 17, 19, 20, 21, 22}) {
            Checks.dueThrow("b of " + op, ARGUMENT, () -> x.transfer(op, 0, 32, 0));
        }
        for (int op : new int[] {15, 16, 17, 18, 20, 21, 22}) {
            Checks.dueThrow("to of " + op, ARGUMENT, () -> x.transfer(op, 0, 0, 1));
        }
        Checks.due("none was made", x.transfer(0, 0, 0, 0), 1);
    }

    private static void transferOfLaterDeclared() {
        Checks.sentence("5: operands and registers that come later are there then");
        PlainSteps x = new PlainSteps();
        Checks.dueThrow("register 1", ARGUMENT, () -> x.transfer(0, 1, 0, 0));
        x.register(8);
        Checks.due("now", x.transfer(0, 1, 1, 1), 1);
        Checks.dueThrow("constant 0", ARGUMENT, () -> x.transfer(0, 32, 0, 0));
        x.constant(1);
        Checks.due("now", x.transfer(0, 32, 32, 1), 2);
        Checks.dueThrow("field 0", ARGUMENT, () -> x.transfer(0, 64, 0, 0));
        x.field(0, 0, true);
        Checks.due("now", x.transfer(0, 64, 64, 1), 3);
    }

    private static void transfersFull() {
        Checks.sentence("5: UnsupportedOperationException, when there are 200");
        PlainSteps x = Checks.ready();
        for (int i = 1; i < 200; i++) {
            x.transfer(1, 1, 32, 1);
            if (i == 100) {
                x.instruction(0xff00, 0x100, 0);
            }
        }
        Checks.due("the last one", x.transfer(1, 1, 33, 1), 200);
        Checks.dueThrow("one more", FULL, () -> x.transfer(0, 0, 0, 0));
        x.instruction(0xff00, 0x200, 0);
        Checks.dueThrow("behind an instruction, too", FULL, () -> x.transfer(0, 0, 0, 0));
        Checks.words(x, 200, 0x200);
        x.step(1);
        Checks.due("what the last 100 do", x.get(1), 10 + 99 + 5);
        Checks.due("no more are done", x.counter(8), 100);
    }

    private static void transferExceptionsInOrder() {
        Checks.sentence("Of several exceptions the first one told is thrown: transfer");
        PlainSteps x = new PlainSteps();
        for (int i = 0; i < 200; i++) {
            x.transfer(0, 0, 0, 0);
        }
        Checks.dueThrow("a wrong op", ARGUMENT, () -> x.transfer(23, 0, 0, 0));
        Checks.dueThrow("a wrong a", ARGUMENT, () -> x.transfer(0, 1, 0, 0));
        Checks.dueThrow("a wrong b", ARGUMENT, () -> x.transfer(0, 0, 32, 0));
        Checks.dueThrow("a wrong to", ARGUMENT, () -> x.transfer(0, 0, 0, 1));
    }

    private static void instructionMore() {
        Checks.sentence("6: its number");
        PlainSteps x = new PlainSteps();
        for (int how = 0; how < 8; how++) {
            Checks.due("how " + how, x.instruction(0xffff, how, how), how);
        }
    }

    private static void instructionOfAllTransfersBehind() {
        Checks.sentence("6: An instruction of all transfers behind those of the instruction before it");
        PlainSteps x = Checks.ready();
        x.transfer(1, 1, 32, 1);
        x.transfer(1, 1, 32, 1);
        x.instruction(0xff00, 0x100, 0);
        x.transfer(1, 1, 33, 1);
        x.instruction(0xff00, 0x200, 0);
        x.transfer(1, 1, 34, 1);
        Checks.words(x, 200, 0x200, 0x100);
        x.step(1);
        Checks.due("one of its own", x.get(1), 15);
        x.step(1);
        Checks.due("the two before it", x.get(1), 17);
        Checks.due("what is behind both belongs to none", x.counter(8), 3);
    }

    private static void instructionOfNone() {
        Checks.sentence("6: An instruction without transfers");
        for (int how = 0; how < 8; how++) {
            PlainSteps x = Checks.ready();
            x.transfer(19, 0, 0, 1);
            x.instruction(0xff00, 0x100, how);
            x.instruction(0xff00, 0x200, how);
            Checks.words(x, 200, 0x200);
            Checks.due("a step, " + how, x.step(1), 1);
            Checks.due("the place, " + how, x.get(0), 202);
            Checks.due("done, " + how, x.counter(1), 1);
            Checks.due("no transfer, " + how, x.counter(8), 0);
            Checks.due("nothing marked, " + how, x.mark(1), false);
        }
    }

    /** Whether a word is an instruction with this mask and value. */
    private static boolean fits(int word, int mask, int value) {
        PlainSteps x = new PlainSteps();
        x.instruction(mask, value, 0);
        Checks.words(x, 0, word);
        x.step(1);
        return x.counter(1) == 1 && x.fault(0) == 0;
    }

    private static void instructionBits() {
        Checks.sentence("Terms: a word is one, if its bits of the mask are those of the value");
        for (int word : new int[] {0, 1, 0x8000, 0xffff}) {
            Checks.due("a mask of none, " + word, fits(word, 0, 0), true);
            Checks.due("a mask of all, " + word, fits(word, 0xffff, word), true);
            Checks.due("another lowest bit, " + word, fits(word ^ 1, 0xffff, word), false);
            Checks.due("another highest bit, " + word, fits(word ^ 0x8000, 0xffff, word), false);
        }
        Checks.due("a bit that must be 0", fits(0x0100, 0x0100, 0), false);
        Checks.due("a bit that must be 1", fits(0xfeff, 0x0100, 0x0100), false);
        Checks.due("other bits are free", fits(0xfeff, 0x0100, 0), true);
        Checks.due("other bits are free then, too", fits(0x0100, 0x0100, 0x0100), true);
    }

    private static void instructionFirstCounts() {
        Checks.sentence("Terms: the first one, by its number, counts");
        for (int first = 0; first < 3; first++) {
            PlainSteps x = Checks.ready();
            for (int i = 0; i < 3; i++) {
                x.transfer(0, 32 + i, 0, 1);
                x.instruction(0xffff, i < first ? 0x0200 : 0x0100, 0);
            }
            Checks.words(x, 200, 0x0100);
            x.step(1);
            Checks.due("number " + first, x.get(1), first == 0 ? 1 : first == 1 ? 5 : 400);
            Checks.due("no other one", x.counter(8), 1);
        }
        PlainSteps y = Checks.ready();
        y.transfer(0, 32, 0, 1);
        y.instruction(0, 0, 0);
        y.transfer(0, 33, 0, 1);
        y.instruction(0xffff, 0x0100, 0);
        Checks.words(y, 200, 0x0100);
        y.step(1);
        Checks.due("a wide one before a narrow one", y.get(1), 1);
    }

    private static void instructionWrongMaskOrValue() {
        Checks.sentence("6: IllegalArgumentException, when mask or value are not 0 .. 65535");
        PlainSteps x = new PlainSteps();
        for (int wrong : new int[] {-1, 65536, LOWEST, HIGHEST}) {
            Checks.dueThrow("mask " + wrong, ARGUMENT, () -> x.instruction(wrong, 0, 0));
            Checks.dueThrow("value " + wrong, ARGUMENT, () -> x.instruction(65535, wrong, 0));
            Checks.dueThrow("both " + wrong, ARGUMENT, () -> x.instruction(wrong, wrong, 0));
        }
        Checks.due("the lowest, and none was made", x.instruction(0, 0, 0), 0);
        Checks.due("the highest", x.instruction(65535, 65535, 0), 1);
    }

    private static void instructionValueOutsideMask() {
        Checks.sentence("6: IllegalArgumentException, when value has bits that mask has not");
        PlainSteps x = new PlainSteps();
        int[][] wrong = {{0, 1}, {0, 65535}, {0xfffe, 1}, {0x7fff, 0x8000}, {1, 3}, {0xff00, 0x01ff}};
        for (int[] w : wrong) {
            Checks.dueThrow("mask " + w[0] + ", value " + w[1], ARGUMENT, () -> x.instruction(w[0], w[1], 0));
        }
        Checks.due("fewer bits are fine, and none was made", x.instruction(0xfffe, 2, 0), 0);
    }

    private static void instructionWrongHow() {
        Checks.sentence("6: IllegalArgumentException for another how");
        PlainSteps x = new PlainSteps();
        for (int how : new int[] {-1, 8, 9, 16, LOWEST, HIGHEST}) {
            Checks.dueThrow("how " + how, ARGUMENT, () -> x.instruction(0, 0, how));
        }
        Checks.due("0, and none was made", x.instruction(0, 0, 0), 0);
        Checks.due("all three added", x.instruction(0, 0, 7), 1);
    }

    private static void instructionsFull() {
        Checks.sentence("6: UnsupportedOperationException, when there are 40");
        PlainSteps x = Checks.ready();
        for (int i = 0; i < 39; i++) {
            x.instruction(0xffff, 0x0100 + i, 0);
        }
        x.transfer(0, 33, 0, 1);
        Checks.due("the last one", x.instruction(0xffff, 0x0200, 0), 39);
        x.transfer(0, 34, 0, 1);
        Checks.dueThrow("one more", FULL, () -> x.instruction(0xffff, 0x0300, 0));
        Checks.words(x, 200, 0x0200, 0x0300);
        x.step(1);
        Checks.due("the last one is done", x.get(1), 5);
        x.step(1);
        Checks.due("one more is not there", x.fault(0), 1);
    }

    private static void instructionRefusedTakesNone() {
        Checks.sentence("6: a refused instruction takes no transfers");
        PlainSteps x = Checks.ready();
        x.transfer(1, 1, 32, 1);
        Checks.dueThrow("mask", ARGUMENT, () -> x.instruction(65536, 0, 0));
        Checks.dueThrow("value", ARGUMENT, () -> x.instruction(0, 1, 0));
        Checks.dueThrow("how", ARGUMENT, () -> x.instruction(0, 0, 8));
        x.transfer(1, 1, 33, 1);
        Checks.due("the first one", x.instruction(0, 0, 0), 0);
        x.step(1);
        Checks.due("both are its own", x.get(1), 16);
    }

    private static void instructionExceptionsInOrder() {
        Checks.sentence("Of several exceptions the first one told is thrown: instruction");
        PlainSteps x = new PlainSteps();
        for (int i = 0; i < 40; i++) {
            x.instruction(0, 0, 0);
        }
        Checks.dueThrow("a wrong mask", ARGUMENT, () -> x.instruction(-1, 0, 0));
        Checks.dueThrow("a wrong value", ARGUMENT, () -> x.instruction(0, 65536, 0));
        Checks.dueThrow("a value outside the mask", ARGUMENT, () -> x.instruction(1, 2, 0));
        Checks.dueThrow("a wrong how", ARGUMENT, () -> x.instruction(0, 0, -1));
    }
}
