/** A machine that is told by small steps. What each call promises stands in the project's document. */
public final class PlainSteps {
    public static final int NONE = -1;

    private static final int PLACE = 0;
    private static final int PLACE_BITS = 16;
    private static final int MOST_REGISTERS = 24;
    private static final int MOST_CONSTANTS = 16;
    private static final int MOST_FIELDS = 16;
    private static final int MOST_TRANSFERS = 200;
    private static final int MOST_INSTRUCTIONS = 40;
    private static final int MOST_KEPT = 8;
    private static final int MOST_STEPS = 5000;
    private static final int BYTES = 4096;
    private static final int LINES = 8;
    private static final int WORD_BITS = 16;
    private static final int WORD_MASK = 65535;
    private static final long HIGHEST_BIT = 1L << 63;

    private static final int FIRST_CONSTANT = 32;
    private static final int FIRST_FIELD = 64;

    private static final int PARALLEL = 1;
    private static final int RESTORING = 2;
    private static final int DELAYED = 4;

    private static final int COPY = 0;
    private static final int ADD = 1;
    private static final int SUBTRACT = 2;
    private static final int MULTIPLY = 3;
    private static final int DIVIDE = 4;
    private static final int REST = 5;
    private static final int AND = 6;
    private static final int OR = 7;
    private static final int EXCLUSIVE_OR = 8;
    private static final int MOVE_UP = 9;
    private static final int MOVE_DOWN = 10;
    private static final int BELOW = 11;
    private static final int ALIKE = 12;
    private static final int LOAD_BYTE = 13;
    private static final int LOAD_WORD = 14;
    private static final int STORE_BYTE = 15;
    private static final int STORE_WORD = 16;
    private static final int END_UNLESS = 17;
    private static final int FAULT_IF = 18;
    private static final int PUT_MARK = 19;
    private static final int NEED_LEVEL = 20;
    private static final int HALT = 21;
    private static final int BACK = 22;

    private static final int NO_FAULT = 0;
    private static final int FAULT_NO_INSTRUCTION = 1;
    private static final int FAULT_FETCH = 2;
    private static final int FAULT_ADDRESS = 3;
    private static final int FAULT_DIVISOR = 4;
    private static final int FAULT_LEVEL = 5;
    private static final int FAULT_NOTHING_KEPT = 6;
    private static final int FAULT_TOLD = 8;

    private static final int LEVEL_OF_FAULTS = 15;
    private static final int MOST_RANK = 14;
    private static final int FIRST_LINE_PLACE = 64;

    private static final int RUNS = 0;
    private static final int HALTED_BY_TRANSFER = 1;
    private static final int HALTED_KEPT_FULL = 2;

    private static final int COUNT_STEPS = 0;
    private static final int COUNT_DONE = 1;
    private static final int COUNT_FAULTS = 2;
    private static final int COUNT_INTERRUPTS = 3;
    private static final int COUNT_READ = 4;
    private static final int COUNT_WRITTEN = 5;
    private static final int COUNT_LEVEL = 6;
    private static final int COUNT_KEPT = 7;
    private static final int COUNT_TRANSFERS = 8;
    private static final int COUNTS = 9;

    private final Registers registers;
    private final Bytes bytes;
    private final Operands operands;
    private final Program program;
    private final Kept kept;
    private final Lines lines;
    private final Machine machine;
    private final int[] counts;

    public PlainSteps() {
        registers = new Registers();
        bytes = new Bytes();
        operands = new Operands(registers);
        program = new Program();
        kept = new Kept();
        lines = new Lines();
        counts = new int[COUNTS];
        Work work = new Work(registers, bytes, operands, program, kept, counts);
        machine = new Machine(registers, bytes, program, kept, lines, work, counts);
    }

    public int register(int bits) throws IllegalArgumentException, UnsupportedOperationException {
        if (bits < 1 || bits > 64) {
            throw new IllegalArgumentException("a register has 1 to 64 bits");
        }
        if (registers.count >= MOST_REGISTERS) {
            throw new UnsupportedOperationException("there are 24 registers");
        }
        return registers.add(bits);
    }

    public int constant(long v) throws UnsupportedOperationException {
        if (operands.constantCount >= MOST_CONSTANTS) {
            throw new UnsupportedOperationException("there are 16 constants");
        }
        return operands.addConstant(v);
    }

    public int field(int from, int to, boolean sign) throws IllegalArgumentException, UnsupportedOperationException {
        if (from < 0 || to >= WORD_BITS || from > to) {
            throw new IllegalArgumentException("a field has bits of 0 to 15");
        }
        if (operands.fieldCount >= MOST_FIELDS) {
            throw new UnsupportedOperationException("there are 16 fields");
        }
        return operands.addField(from, to, sign);
    }

    public int transfer(int op, int a, int b, int to) throws IllegalArgumentException, UnsupportedOperationException {
        if (op < COPY || op > BACK) {
            throw new IllegalArgumentException("no such op");
        }
        if (!operands.has(a) || !operands.has(b)) {
            throw new IllegalArgumentException("no such operand");
        }
        if (!registers.has(to)) {
            throw new IllegalArgumentException("no such register");
        }
        if (program.transferCount >= MOST_TRANSFERS) {
            throw new UnsupportedOperationException("there are 200 transfers");
        }
        return program.addTransfer(op, a, b, to);
    }

    public int instruction(int mask, int value, int how)
            throws IllegalArgumentException, UnsupportedOperationException {
        if (mask < 0 || mask > WORD_MASK || value < 0 || value > WORD_MASK) {
            throw new IllegalArgumentException("mask and value have 16 bits");
        }
        if ((value & ~mask) != 0) {
            throw new IllegalArgumentException("the value has bits that the mask has not");
        }
        if (how < 0 || how > PARALLEL + RESTORING + DELAYED) {
            throw new IllegalArgumentException("no such way");
        }
        if (program.instructionCount >= MOST_INSTRUCTIONS) {
            throw new UnsupportedOperationException("there are 40 instructions");
        }
        return program.addInstruction(mask, value, how);
    }

    public int memory(int at, int b) throws IndexOutOfBoundsException, IllegalArgumentException {
        if (!bytes.hasByte(at)) {
            throw new IndexOutOfBoundsException("no such byte");
        }
        if (b < 0 || b > 255) {
            throw new IllegalArgumentException("a byte is 0 to 255");
        }
        int before = bytes.byteOf(at);
        bytes.putByte(at, b);
        return before;
    }

    public int byteAt(int at) throws IndexOutOfBoundsException {
        if (!bytes.hasByte(at)) {
            throw new IndexOutOfBoundsException("no such byte");
        }
        return bytes.byteOf(at);
    }

    public int step(int n) throws IllegalArgumentException, IllegalStateException {
        if (n < 1 || n > MOST_STEPS) {
            throw new IllegalArgumentException("1 to 5000 steps");
        }
        if (machine.halt != RUNS) {
            throw new IllegalStateException("the machine has halted");
        }
        int done = 0;
        while (done < n && machine.halt == RUNS) {
            machine.takeStep();
            done++;
        }
        return done;
    }

    public long set(int register, long v) throws IndexOutOfBoundsException {
        if (!registers.has(register)) {
            throw new IndexOutOfBoundsException("no such register");
        }
        long before = registers.valueOf(register);
        registers.put(register, v, false);
        if (register == PLACE) {
            machine.loseWaiting();
        }
        return before;
    }

    public long get(int register) throws IndexOutOfBoundsException {
        if (!registers.has(register)) {
            throw new IndexOutOfBoundsException("no such register");
        }
        return registers.valueOf(register);
    }

    public boolean mark(int register) throws IndexOutOfBoundsException {
        if (!registers.has(register)) {
            throw new IndexOutOfBoundsException("no such register");
        }
        return registers.isMarked(register);
    }

    public boolean line(int line, boolean on) throws IndexOutOfBoundsException {
        if (!lines.has(line)) {
            throw new IndexOutOfBoundsException("no such line");
        }
        return lines.turn(line, on);
    }

    public int enable(int line, int rank) throws IndexOutOfBoundsException, IllegalArgumentException {
        if (!lines.has(line)) {
            throw new IndexOutOfBoundsException("no such line");
        }
        if (rank < 0 || rank > MOST_RANK) {
            throw new IllegalArgumentException("a rank is 0 to 14");
        }
        return lines.giveRank(line, rank);
    }

    public int fault(int what) throws IndexOutOfBoundsException {
        if (what < 0 || what > 1) {
            throw new IndexOutOfBoundsException("0 for the kind, 1 for the place");
        }
        return what == 0 ? machine.faultKind : machine.faultPlace;
    }

    public int halted() {
        return machine.halt;
    }

    public int counter(int what) throws IndexOutOfBoundsException {
        if (what < 0 || what >= COUNTS) {
            throw new IndexOutOfBoundsException("no such counter");
        }
        if (what == COUNT_LEVEL) {
            return kept.level;
        }
        return what == COUNT_KEPT ? kept.count : counts[what];
    }

    private static final class Registers {
        private final long[] cuts = new long[MOST_REGISTERS];
        private final long[] values = new long[MOST_REGISTERS];
        private final boolean[] marks = new boolean[MOST_REGISTERS];
        private int count;

        Registers() {
            cuts[PLACE] = -1L >>> (64 - PLACE_BITS);
            count = 1;
        }

        int add(int bits) {
            cuts[count] = -1L >>> (64 - bits);
            marks[count] = true;
            count++;
            return count - 1;
        }

        boolean has(int number) {
            return number >= 0 && number < count;
        }

        long valueOf(int number) {
            return values[number];
        }

        boolean isMarked(int number) {
            return marks[number];
        }

        void put(int number, long value, boolean marked) {
            values[number] = value & cuts[number];
            marks[number] = marked;
        }

        int placeNow() {
            return (int) values[PLACE];
        }

        /** The machine's own moves of the place leave its mark as it is. */
        void movePlace(int place) {
            put(PLACE, place, marks[PLACE]);
        }
    }

    private static final class Bytes {
        private final byte[] cells = new byte[BYTES];

        /** Addresses are long: a transfer computes them with 64 bits, and cutting them first would hide a fault. */
        boolean hasByte(long at) {
            return at >= 0 && at < BYTES;
        }

        boolean hasWord(long at) {
            return hasByte(at) && (at & 1) == 0;
        }

        int byteOf(int at) {
            return cells[at] & 255;
        }

        int wordOf(int at) {
            return cells[at] & 255 | (cells[at + 1] & 255) << 8;
        }

        void putByte(int at, long value) {
            cells[at] = (byte) value;
        }

        void putWord(int at, long value) {
            cells[at] = (byte) value;
            cells[at + 1] = (byte) (value >>> 8);
        }
    }

    /** What a transfer reads: registers, constants, and fields of the word. */
    private static final class Operands {
        private final Registers registers;
        private final long[] constants = new long[MOST_CONSTANTS];
        private final int[] fieldFrom = new int[MOST_FIELDS];
        private final int[] fieldTo = new int[MOST_FIELDS];
        private final boolean[] fieldSign = new boolean[MOST_FIELDS];
        private int constantCount;
        private int fieldCount;

        Operands(Registers registers) {
            this.registers = registers;
        }

        int addConstant(long value) {
            constants[constantCount] = value;
            constantCount++;
            return FIRST_CONSTANT + constantCount - 1;
        }

        int addField(int from, int to, boolean sign) {
            fieldFrom[fieldCount] = from;
            fieldTo[fieldCount] = to;
            fieldSign[fieldCount] = sign;
            fieldCount++;
            return FIRST_FIELD + fieldCount - 1;
        }

        boolean has(int operand) {
            if (operand >= FIRST_FIELD) {
                return operand - FIRST_FIELD < fieldCount;
            }
            if (operand >= FIRST_CONSTANT) {
                return operand - FIRST_CONSTANT < constantCount;
            }
            return registers.has(operand);
        }

        long read(int operand, int word) {
            if (operand >= FIRST_FIELD) {
                return readField(operand - FIRST_FIELD, word);
            }
            if (operand >= FIRST_CONSTANT) {
                return constants[operand - FIRST_CONSTANT];
            }
            return registers.valueOf(operand);
        }

        private long readField(int number, int word) {
            int above = 63 - fieldTo[number];
            int aside = above + fieldFrom[number];
            long lifted = (long) word << above;
            return fieldSign[number] ? lifted >> aside : lifted >>> aside;
        }

        boolean isMarked(int operand) {
            return operand < FIRST_CONSTANT && registers.isMarked(operand);
        }
    }

    private static final class Program {
        private final int[] ops = new int[MOST_TRANSFERS];
        private final int[] firsts = new int[MOST_TRANSFERS];
        private final int[] seconds = new int[MOST_TRANSFERS];
        private final int[] targets = new int[MOST_TRANSFERS];
        private int transferCount;

        private final int[] masks = new int[MOST_INSTRUCTIONS];
        private final int[] values = new int[MOST_INSTRUCTIONS];
        private final int[] ways = new int[MOST_INSTRUCTIONS];
        private final int[] starts = new int[MOST_INSTRUCTIONS];
        private final int[] ends = new int[MOST_INSTRUCTIONS];
        private int instructionCount;

        int addTransfer(int op, int a, int b, int to) {
            ops[transferCount] = op;
            firsts[transferCount] = a;
            seconds[transferCount] = b;
            targets[transferCount] = to;
            transferCount++;
            return transferCount;
        }

        int addInstruction(int mask, int value, int how) {
            masks[instructionCount] = mask;
            values[instructionCount] = value;
            ways[instructionCount] = how;
            starts[instructionCount] = instructionCount == 0 ? 0 : ends[instructionCount - 1];
            ends[instructionCount] = transferCount;
            instructionCount++;
            return instructionCount - 1;
        }

        int find(int word) {
            for (int i = 0; i < instructionCount; i++) {
                if ((word & masks[i]) == values[i]) {
                    return i;
                }
            }
            return NONE;
        }

        boolean is(int number, int way) {
            return (ways[number] & way) != 0;
        }
    }

    /** The level, and the places and levels that BACK brings again. */
    private static final class Kept {
        private final int[] places = new int[MOST_KEPT];
        private final int[] levels = new int[MOST_KEPT];
        private int count;
        private int level;

        boolean isFull() {
            return count >= MOST_KEPT;
        }

        void keep(int place, int newLevel) {
            places[count] = place;
            levels[count] = level;
            count++;
            level = newLevel;
        }

        /** The latest kept place, or NONE; the level is so again. */
        int goBack() {
            if (count <= 0) {
                return NONE;
            }
            count--;
            level = levels[count];
            return places[count];
        }

        /** An instruction only takes away, so what it took still stands in the rows. */
        void restore(int oldCount, int oldLevel) {
            count = oldCount;
            level = oldLevel;
        }
    }

    private static final class Lines {
        private final boolean[] on = new boolean[LINES];
        private final int[] ranks = new int[LINES];

        Lines() {
            for (int i = 0; i < LINES; i++) {
                ranks[i] = 1;
            }
        }

        boolean has(int number) {
            return number >= 0 && number < LINES;
        }

        boolean turn(int number, boolean nowOn) {
            boolean before = on[number];
            on[number] = nowOn;
            return before;
        }

        int giveRank(int number, int rank) {
            int before = ranks[number];
            ranks[number] = rank;
            return before;
        }

        int rankOf(int number) {
            return ranks[number];
        }

        /** Rank 0 needs no test of its own: no level is below it. */
        int mostUrgent(int level) {
            int best = NONE;
            int bestRank = level;
            for (int i = 0; i < LINES; i++) {
                if (on[i] && ranks[i] > bestRank) {
                    best = i;
                    bestRank = ranks[i];
                }
            }
            return best;
        }
    }

    /**
     * A row of writes: for a parallel instruction those that are still to be done, for a restoring one those
     * that take back what it has done. An instruction has at most one for each of its transfers.
     */
    private static final class Writes {
        private static final int VALUE = 0;
        private static final int MARKED_VALUE = 1;
        private static final int MARK_ALONE = 2;
        private static final int BYTE = 3;
        private static final int WORD = 4;

        private final Registers registers;
        private final Bytes bytes;
        private final int[] forms = new int[MOST_TRANSFERS];
        private final int[] targets = new int[MOST_TRANSFERS];
        private final long[] values = new long[MOST_TRANSFERS];
        private int count;

        Writes(Registers registers, Bytes bytes) {
            this.registers = registers;
            this.bytes = bytes;
        }

        void clear() {
            count = 0;
        }

        void note(int form, int target, long value) {
            if (count >= MOST_TRANSFERS) {
                return;
            }
            forms[count] = form;
            targets[count] = target;
            values[count] = value;
            count++;
        }

        /** Notes the write that would take back a write of this form. */
        void noteReverse(int form, int target) {
            if (form == BYTE) {
                note(BYTE, target, bytes.byteOf(target));
            } else if (form == WORD) {
                note(WORD, target, bytes.wordOf(target));
            } else {
                note(registers.isMarked(target) ? MARKED_VALUE : VALUE, target, registers.valueOf(target));
            }
        }

        void perform(int form, int target, long value) {
            switch (form) {
                case BYTE:
                    bytes.putByte(target, value);
                    break;
                case WORD:
                    bytes.putWord(target, value);
                    break;
                case MARK_ALONE:
                    registers.put(target, registers.valueOf(target), true);
                    break;
                default:
                    registers.put(target, value, form == MARKED_VALUE);
                    break;
            }
        }

        void performInOrder() {
            for (int i = 0; i < count; i++) {
                perform(forms[i], targets[i], values[i]);
            }
        }

        void performBackwards() {
            for (int i = count - 1; i >= 0; i--) {
                perform(forms[i], targets[i], values[i]);
            }
        }
    }

    /** The transfers of one instruction. Faults are answered by their kinds, NO_FAULT when there is none. */
    private static final class Work {
        private final Registers registers;
        private final Bytes bytes;
        private final Operands operands;
        private final Program program;
        private final Kept kept;
        private final Writes writes;
        private final int[] counts;
        private int word;
        private boolean parallel;
        private boolean restoring;
        private boolean wrotePlace;
        private boolean ended;
        private boolean halts;
        private int backPlace;

        Work(Registers registers, Bytes bytes, Operands operands, Program program, Kept kept, int[] counts) {
            this.registers = registers;
            this.bytes = bytes;
            this.operands = operands;
            this.program = program;
            this.kept = kept;
            this.counts = counts;
            writes = new Writes(registers, bytes);
        }

        int carryOut(int number, int newWord) {
            prepare(number, newWord);
            int countBefore = kept.count;
            int levelBefore = kept.level;
            int kind = NO_FAULT;
            for (int i = program.starts[number]; i < program.ends[number] && kind == NO_FAULT && !ended; i++) {
                counts[COUNT_TRANSFERS]++;
                kind = doTransfer(i);
            }
            if (kind == NO_FAULT) {
                writeWhatWaits();
            } else if (restoring) {
                takeBack();
                kept.restore(countBefore, levelBefore);
            }
            return kind;
        }

        private void prepare(int number, int newWord) {
            word = newWord;
            parallel = program.is(number, PARALLEL);
            restoring = program.is(number, RESTORING);
            wrotePlace = false;
            ended = false;
            halts = false;
            backPlace = NONE;
            writes.clear();
        }

        private void writeWhatWaits() {
            if (!parallel) {
                return;
            }
            if (backPlace != NONE) {
                registers.put(PLACE, backPlace, false);
            }
            writes.performInOrder();
        }

        /** Of a parallel instruction nothing was written yet, so its row is not to be done at all. */
        private void takeBack() {
            if (!parallel) {
                writes.performBackwards();
            }
            halts = false;
        }

        private int doTransfer(int i) {
            int op = program.ops[i];
            int to = program.targets[i];
            long a = operands.read(program.firsts[i], word);
            long b = operands.read(program.seconds[i], word);
            boolean marked = operands.isMarked(program.firsts[i])
                    || op != COPY && operands.isMarked(program.seconds[i]);
            int form = marked ? Writes.MARKED_VALUE : Writes.VALUE;
            switch (op) {
                case DIVIDE:
                case REST:
                    return divide(op, a, b, to, form);
                case LOAD_BYTE:
                case LOAD_WORD:
                    return load(op == LOAD_WORD, a + b, to, form);
                case STORE_BYTE:
                case STORE_WORD:
                    return store(op == STORE_WORD, a, b);
                case END_UNLESS:
                    ended = a == 0;
                    return NO_FAULT;
                case FAULT_IF:
                    return b == 0 ? NO_FAULT : FAULT_TOLD + (int) (a & 7);
                case PUT_MARK:
                    write(Writes.MARK_ALONE, to, 0);
                    return NO_FAULT;
                case NEED_LEVEL:
                    return kept.level == 0 ? FAULT_LEVEL : NO_FAULT;
                case HALT:
                    halts = true;
                    return NO_FAULT;
                case BACK:
                    return goBack();
                default:
                    write(form, to, result(op, a, b));
                    return NO_FAULT;
            }
        }

        private int divide(int op, long a, long b, int to, int form) {
            if (b == 0) {
                return FAULT_DIVISOR;
            }
            long times = quotient(a, b);
            write(form, to, op == DIVIDE ? times : a - times * b);
            return NO_FAULT;
        }

        private int load(boolean asWord, long address, int to, int form) {
            if (asWord ? !bytes.hasWord(address) : !bytes.hasByte(address)) {
                return FAULT_ADDRESS;
            }
            int at = (int) address;
            counts[COUNT_READ] += asWord ? 2 : 1;
            write(form, to, asWord ? bytes.wordOf(at) : bytes.byteOf(at));
            return NO_FAULT;
        }

        private int store(boolean asWord, long address, long value) {
            if (asWord ? !bytes.hasWord(address) : !bytes.hasByte(address)) {
                return FAULT_ADDRESS;
            }
            counts[COUNT_WRITTEN] += asWord ? 2 : 1;
            write(asWord ? Writes.WORD : Writes.BYTE, (int) address, value);
            return NO_FAULT;
        }

        /** A parallel instruction goes on reading its own place, so the kept one waits for its end. */
        private int goBack() {
            int place = kept.goBack();
            if (place == NONE) {
                return FAULT_NOTHING_KEPT;
            }
            if (parallel) {
                backPlace = place;
                wrotePlace = true;
            } else {
                write(Writes.VALUE, PLACE, place);
            }
            return NO_FAULT;
        }

        private void write(int form, int target, long value) {
            if (target == PLACE && (form == Writes.VALUE || form == Writes.MARKED_VALUE)) {
                wrotePlace = true;
            }
            if (parallel) {
                writes.note(form, target, value);
                return;
            }
            if (restoring) {
                writes.noteReverse(form, target);
            }
            writes.perform(form, target, value);
        }

        private static long result(int op, long a, long b) {
            switch (op) {
                case ADD:
                    return a + b;
                case SUBTRACT:
                    return a - b;
                case MULTIPLY:
                    return a * b;
                case AND:
                    return a & b;
                case OR:
                    return a | b;
                case EXCLUSIVE_OR:
                    return a ^ b;
                case MOVE_UP:
                    return b >= 0 && b <= 63 ? a << (int) b : 0;
                case MOVE_DOWN:
                    return b >= 0 && b <= 63 ? a >>> (int) b : 0;
                case BELOW:
                    return isBelow(a, b) ? 1 : 0;
                case ALIKE:
                    return a == b ? 1 : 0;
                default:
                    return a;
            }
        }

        /** Without sign: turning the highest bits makes the order with sign the one without. */
        private static boolean isBelow(long a, long b) {
            return (a ^ HIGHEST_BIT) < (b ^ HIGHEST_BIT);
        }

        /** Without sign: a divisor of 2 to the 63 or more goes once or never; else halves are divided first. */
        private static long quotient(long a, long b) {
            if (b <= 0) {
                return b == 0 || isBelow(a, b) ? 0 : 1;
            }
            if (a >= 0) {
                return a / b;
            }
            long times = (a >>> 1) / b << 1;
            return isBelow(a - times * b, b) ? times : times + 1;
        }
    }

    /** What a step does round an instruction: interrupts, the fetch, faults, halts, delayed places. */
    private static final class Machine {
        private final Registers registers;
        private final Bytes bytes;
        private final Program program;
        private final Kept kept;
        private final Lines lines;
        private final Work work;
        private final int[] counts;
        private int waitingPlace = NONE;
        private int halt = RUNS;
        private int faultKind;
        private int faultPlace;

        Machine(Registers registers, Bytes bytes, Program program, Kept kept, Lines lines, Work work, int[] counts) {
            this.registers = registers;
            this.bytes = bytes;
            this.program = program;
            this.kept = kept;
            this.lines = lines;
            this.work = work;
            this.counts = counts;
        }

        void loseWaiting() {
            waitingPlace = NONE;
        }

        void takeStep() {
            counts[COUNT_STEPS]++;
            int urgent = lines.mostUrgent(kept.level);
            if (urgent != NONE) {
                interruptBy(urgent);
                return;
            }
            int at = registers.placeNow();
            if (!bytes.hasWord(at)) {
                failWith(FAULT_FETCH, at);
                return;
            }
            int word = bytes.wordOf(at);
            int number = program.find(word);
            if (number == NONE) {
                failWith(FAULT_NO_INSTRUCTION, at);
                return;
            }
            registers.movePlace(at + 2);
            int kind = work.carryOut(number, word);
            if (work.halts) {
                halt = HALTED_BY_TRANSFER;
            }
            if (kind == NO_FAULT) {
                counts[COUNT_DONE]++;
                settlePlace(at + 2, program.is(number, DELAYED));
            } else {
                failWith(kind, at);
            }
        }

        private void interruptBy(int urgent) {
            loseWaiting();
            if (kept.isFull()) {
                halt = HALTED_KEPT_FULL;
                return;
            }
            counts[COUNT_INTERRUPTS]++;
            kept.keep(registers.placeNow(), lines.rankOf(urgent));
            registers.put(PLACE, FIRST_LINE_PLACE + 4 * urgent, false);
        }

        private void settlePlace(int behind, boolean delayed) {
            int waited = waitingPlace;
            loseWaiting();
            if (!work.wrotePlace) {
                if (waited != NONE) {
                    registers.movePlace(waited);
                }
            } else if (delayed) {
                waitingPlace = registers.placeNow();
                registers.movePlace(behind);
            }
        }

        private void failWith(int kind, int at) {
            counts[COUNT_FAULTS]++;
            faultKind = kind;
            faultPlace = at;
            loseWaiting();
            if (kept.isFull()) {
                halt = HALTED_KEPT_FULL;
                registers.movePlace(at);
                return;
            }
            kept.keep(at, LEVEL_OF_FAULTS);
            registers.put(PLACE, 4 * kind, false);
        }
    }
}
