/** The terms on transfers (promise 5's ops, done by promise 9): a test for each sentence that names an edge. */
public final class TransferEdgesTest {
    private static final long TOP = Long.MIN_VALUE;
    private static final long MOST = Long.MAX_VALUE;

    public static void main(String[] args) {
        widthsCut();
        placeCut();
        registersWithoutSign();
        plainCopy();
        sums();
        differences();
        products();
        quotients();
        rests();
        noDivisor();
        bitsOfBoth();
        movedUp();
        movedDown();
        below();
        alike();
        byteRead();
        byteReadFaults();
        wordRead();
        wordReadFaults();
        markOfA();
        markOfB();
        markOfThePlace();
        markOfTheAddress();
        markIsTaken();
        markOfItself();
        markOfTheUnread();
        faultLeavesTo();
        byteWritten();
        byteWrittenFaults();
        wordWritten();
        wordWrittenFaults();
        storesWriteNoRegister();
        endWhenZero();
        endOnlyOfItsInstruction();
        toldFault();
        toldFaultNot();
        markAlone();
        markAloneOfThePlace();
        levelZero();
        levelOne();
        haltsBehindTheStep();
        backPlace();
        backLevel();
        backWithoutMark();
        backLatestFirst();
        backNoneKept();
        Checks.finish();
    }

    private static void due(int op, long a, long b, long want) {
        Checks.due(op + " of " + a + ", " + b, Checks.afterOne(op, a, b, 64).get(1), want);
    }

    private static void dueFault(int kind, int op, long a, long b) {
        PlainSteps x = Checks.afterOne(op, a, b, 64);
        Checks.due("the kind of " + op + " of " + a + ", " + b, x.fault(0), kind);
        Checks.due("its place", x.fault(1), 512);
        Checks.due("the place then", x.get(0), 4 * kind);
        Checks.due("counted", x.counter(2), 1);
    }

    private static int[] row(int op, int a, int b, int to) {
        return Checks.row(op, a, b, to);
    }

    private static void widthsCut() {
        Checks.sentence("the result is cut to the width of to");
        for (int bits : new int[] {1, 2, 8, 31, 32, 33, 63, 64}) {
            long cut = -1L >>> 64 - bits;
            Checks.due("0 to " + bits, Checks.afterOne(0, -1, 0, bits).get(1), cut);
            Checks.due("1 to " + bits, Checks.afterOne(1, -1, 1, bits).get(1), 0);
            Checks.due("2 to " + bits, Checks.afterOne(2, 0, 1, bits).get(1), cut);
            Checks.due("3 to " + bits, Checks.afterOne(3, -1, -1, bits).get(1), 1);
            Checks.due("4 to " + bits, Checks.afterOne(4, -1, 1, bits).get(1), cut);
            Checks.due("5 to " + bits, Checks.afterOne(5, -2, -1, bits).get(1), -2 & cut);
            Checks.due("8 to " + bits, Checks.afterOne(8, -1, 0, bits).get(1), cut);
            Checks.due("9 to " + bits, Checks.afterOne(9, 1, bits - 1, bits).get(1), 1L << bits - 1);
            Checks.due("9 beyond " + bits, Checks.afterOne(9, 1, bits, bits).get(1), 0);
            Checks.due("10 to " + bits, Checks.afterOne(10, -1, 1, bits).get(1), MOST & cut);
        }
        Checks.due("13 to 4", Checks.afterOne(13, 513, 0, 4).get(1), 1);
        Checks.due("14 to 8", Checks.afterOne(14, 512, 0, 8).get(1), 0);
        Checks.due("14 to 9", Checks.afterOne(14, 512, 0, 9).get(1), 256);
    }

    private static void placeCut() {
        Checks.sentence("the result is cut to the width of to: the place, 16 bits");
        PlainSteps x = Checks.ready();
        x.constant(65536 + 40);
        Checks.due("a jump beyond", Checks.run(x, 0, row(0, 36, 0, 0)).get(0), 40);
        PlainSteps y = Checks.ready();
        y.constant(-300);
        Checks.due("below zero", Checks.run(y, 0, row(1, 0, 36, 0)).get(0), 65536 + 202 - 300);
        PlainSteps z = Checks.ready();
        z.constant(65535 - 202);
        Checks.due("the greatest", Checks.run(z, 0, row(1, 0, 36, 0)).get(0), 65535);
        PlainSteps w = Checks.ready();
        w.constant(65536 - 202);
        Checks.due("one more", Checks.run(w, 0, row(1, 0, 36, 0)).get(0), 0);
    }

    private static void registersWithoutSign() {
        Checks.sentence("values of registers without sign");
        PlainSteps x = new PlainSteps();
        x.register(8);
        x.register(64);
        x.set(1, -1);
        Checks.run(x, 0, row(1, 1, 1, 2));
        Checks.due("twice 255", x.get(2), 510);
        PlainSteps y = new PlainSteps();
        y.register(64);
        y.register(1);
        y.register(8);
        y.register(1);
        y.set(1, -1);
        y.set(3, 255);
        y.set(4, 1);
        Checks.run(y, 0, row(11, 3, 1, 2), row(1, 4, 4, 3));
        Checks.due("255 is below 64 bits of 1", y.get(2), 1);
        Checks.due("one bit of 1 is no -1", y.get(3), 2);
    }

    private static void plainCopy() {
        Checks.sentence("0 a");
        due(0, 0, -1, 0);
        due(0, -1, 0, -1);
        due(0, TOP, 5, TOP);
    }

    private static void sums() {
        Checks.sentence("1 a + b (64 bits)");
        due(1, MOST, 1, TOP);
        due(1, -1, 1, 0);
        due(1, -1, -1, -2);
        due(1, TOP, TOP, 0);
        due(1, 0xffffffffL, 1, 1L << 32);
    }

    private static void differences() {
        Checks.sentence("2 a - b (64 bits)");
        due(2, 0, 1, -1);
        due(2, TOP, 1, MOST);
        due(2, 0, TOP, TOP);
        due(2, 7, 7, 0);
        due(2, 1L << 32, 1, 0xffffffffL);
    }

    private static void products() {
        Checks.sentence("3 a * b (64 bits)");
        due(3, 1L << 32, 1L << 31, TOP);
        due(3, 1L << 32, 1L << 32, 0);
        due(3, -1, -1, 1);
        due(3, TOP, 3, TOP);
        due(3, 0, -1, 0);
        due(3, 0xffffffffL, 0xffffffffL, 0xfffffffe00000001L);
    }

    private static void quotients() {
        Checks.sentence("4 a / b (without sign)");
        due(4, 0, 5, 0);
        due(4, 4, 5, 0);
        due(4, 5, 5, 1);
        due(4, -1, 1, -1);
        due(4, -1, 2, MOST);
        due(4, -1, 3, 0x5555555555555555L);
        due(4, -1, MOST, 2);
        due(4, -2, MOST, 2);
        due(4, -3, MOST, 1);
        due(4, -1, TOP, 1);
        due(4, TOP, TOP, 1);
        due(4, MOST, TOP, 0);
        due(4, -2, -1, 0);
        due(4, -1, -1, 1);
        due(4, TOP, -1, 0);
        due(4, TOP, 2, 1L << 62);
        due(4, 1, -1, 0);
    }

    private static void rests() {
        Checks.sentence("5 its rest (without sign)");
        due(5, 0, 5, 0);
        due(5, 4, 5, 4);
        due(5, 5, 5, 0);
        due(5, -1, 1, 0);
        due(5, -1, 2, 1);
        due(5, -1, 16, 15);
        due(5, -1, MOST, 1);
        due(5, -2, MOST, 0);
        due(5, -3, MOST, MOST - 1);
        due(5, -1, TOP, MOST);
        due(5, MOST, TOP, MOST);
        due(5, TOP, TOP, 0);
        due(5, -2, -1, -2);
        due(5, -1, -1, 0);
        due(5, 1, -1, 1);
    }

    private static void noDivisor() {
        Checks.sentence("4, 5: b 0: FAULT 4");
        for (int op = 4; op <= 5; op++) {
            for (long a : new long[] {0, 1, -1, TOP}) {
                dueFault(4, op, a, 0);
            }
            Checks.due("b 1 makes none", Checks.afterOne(op, 9, 1, 8).fault(0), 0);
            Checks.due("b of high bits alone makes none", Checks.afterOne(op, 9, 1L << 32, 8).fault(0), 0);
        }
    }

    private static void bitsOfBoth() {
        Checks.sentence("6 and; 7 or; 8 exclusive or");
        due(6, -1, TOP, TOP);
        due(6, 12, 10, 8);
        due(6, -1, 0, 0);
        due(7, TOP, 1, TOP | 1);
        due(7, 12, 10, 14);
        due(7, 0, 0, 0);
        due(8, -1, -1, 0);
        due(8, -1, 1, -2);
        due(8, 12, 10, 6);
    }

    private static void movedUp() {
        Checks.sentence("9 a moved up by b (0, when b, without sign, is above 63)");
        due(9, 3, 0, 3);
        due(9, -1, 1, -2);
        due(9, 3, 62, 3L << 62);
        due(9, 3, 63, TOP);
        for (long b : new long[] {64, 65, 127, 128, 1L << 32, (1L << 32) + 1, -1, -63, TOP, TOP + 1}) {
            due(9, -1, b, 0);
        }
    }

    private static void movedDown() {
        Checks.sentence("10 down (0, when b, without sign, is above 63)");
        due(10, TOP, 0, TOP);
        due(10, -1, 1, MOST);
        due(10, TOP, 62, 2);
        due(10, TOP, 63, 1);
        for (long b : new long[] {64, 65, 127, 128, 1L << 32, (1L << 32) + 1, -1, -63, TOP, TOP + 1}) {
            due(10, -1, b, 0);
        }
    }

    private static void below() {
        Checks.sentence("11 1 when a is below b without sign, else 0");
        due(11, 0, 0, 0);
        due(11, 0, 1, 1);
        due(11, 1, 0, 0);
        due(11, MOST, TOP, 1);
        due(11, TOP, MOST, 0);
        due(11, 0, -1, 1);
        due(11, -1, 0, 0);
        due(11, -2, -1, 1);
        due(11, -1, -1, 0);
        due(11, -1, -2, 0);
        due(11, 1L << 32, 1, 0);
    }

    private static void alike() {
        Checks.sentence("12 1 when both are alike, else 0");
        due(12, 0, 0, 1);
        due(12, -1, -1, 1);
        due(12, 0, TOP, 0);
        due(12, 1, (1L << 32) + 1, 0);
        due(12, -1, 0xffffffffL, 0);
    }

    /** One transfer at place 512 with some bytes at both ends of memory. */
    private static PlainSteps atTheEnds(int op, long a, long b) {
        PlainSteps x = new PlainSteps();
        x.register(64);
        x.constant(a);
        x.constant(b);
        Checks.words(x, 0, 0xb2a1, 0xd4c3);
        Checks.words(x, 4092, 0x8271, 0xa493);
        x.set(0, 512);
        return Checks.run(x, 0, row(op, 32, 33, 1));
    }

    private static void byteRead() {
        Checks.sentence("13 the byte at a + b");
        Checks.due("the first", atTheEnds(13, 0, 0).get(1), 0xa1);
        Checks.due("the next, odd", atTheEnds(13, 0, 1).get(1), 0xb2);
        Checks.due("the last", atTheEnds(13, 4095, 0).get(1), 0xa4);
        Checks.due("the last of two parts", atTheEnds(13, 95, 4000).get(1), 0xa4);
        Checks.due("a part below zero", atTheEnds(13, -1, 4096).get(1), 0xa4);
        Checks.due("a sum of 64 bits", atTheEnds(13, TOP, TOP).get(1), 0xa1);
        Checks.due("one byte is read", atTheEnds(13, 4095, 0).counter(4), 1);
        Checks.due("without a mark", atTheEnds(13, 4095, 0).mark(1), false);
    }

    private static void dueUnread(int op, long a, long b) {
        PlainSteps x = atTheEnds(op, a, b);
        Checks.due("the fault of " + op + " at " + a + " + " + b, x.fault(0), 3);
        Checks.due("its place", x.fault(1), 512);
        Checks.due("nothing is read", x.counter(4), 0);
        Checks.due("nothing is written to", x.mark(1), true);
    }

    private static void byteReadFaults() {
        Checks.sentence("13 (memory ends before: FAULT 3)");
        long[][] wrong = {{4096, 0}, {4095, 1}, {0, -1}, {-1, 0}, {1L << 32, 0}, {(1L << 32) - 1, 1}, {MOST, 1},
            {TOP, 0}, {MOST, MOST}, {-4096, 0}, {65536, 0}};
        for (long[] w : wrong) {
            dueUnread(13, w[0], w[1]);
        }
    }

    private static void wordRead() {
        Checks.sentence("14 the word there: two bytes, the low one first, at an even address");
        Checks.due("the first", atTheEnds(14, 0, 0).get(1), 0xb2a1);
        Checks.due("the second", atTheEnds(14, 1, 1).get(1), 0xd4c3);
        Checks.due("the last", atTheEnds(14, 4094, 0).get(1), 0xa493);
        Checks.due("two odd parts", atTheEnds(14, 4095, -1).get(1), 0xa493);
        Checks.due("a sum of 64 bits", atTheEnds(14, -1, 1).get(1), 0xb2a1);
        Checks.due("two bytes are read", atTheEnds(14, 4094, 0).counter(4), 2);
        Checks.due("without a mark", atTheEnds(14, 4094, 0).mark(1), false);
    }

    private static void wordReadFaults() {
        Checks.sentence("14 (memory ends before: FAULT 3; of a word also an odd address)");
        long[][] wrong = {{1, 0}, {0, 1}, {4093, 0}, {4095, 0}, {4096, 0}, {4094, 1}, {4094, 2}, {-1, 0}, {-2, 0},
            {1L << 32, 0}, {TOP, 0}, {TOP, 2}, {MOST, 1}, {65536, 0}};
        for (long[] w : wrong) {
            dueUnread(14, w[0], w[1]);
        }
    }

    /** Register 1 has a mark, 2 has none, 3 takes the result; all are 2, so that no op makes a fault. */
    private static PlainSteps withMarks(int op, int a, int b, boolean markBefore) {
        PlainSteps x = new PlainSteps();
        x.register(8);
        x.register(8);
        x.register(64);
        x.constant(2);
        x.field(8, 9, false);
        x.set(1, 2);
        x.set(2, 2);
        x.set(3, 77);
        Checks.define(x, 2, 0, row(19, 0, 0, 1));
        if (markBefore) {
            Checks.define(x, 3, 0, row(19, 0, 0, 3));
            Checks.words(x, 0, 0x0200, 0x0300);
            x.step(2);
        } else {
            Checks.words(x, 0, 0x0200);
            x.step(1);
        }
        x.set(0, 100);
        Checks.define(x, 1, 0, row(op, a, b, 3));
        Checks.words(x, 100, 0x0100);
        x.step(1);
        Checks.due("op " + op + " is done", x.counter(2), 0);
        return x;
    }

    private static void markOfA() {
        Checks.sentence("it has a mark then, if a register that was read has one: a");
        for (int op = 0; op <= 14; op++) {
            Checks.due("a of " + op, withMarks(op, 1, 32, false).mark(3), true);
            Checks.due("b without one", withMarks(op, 1, 2, false).mark(3), true);
        }
    }

    private static void markOfB() {
        Checks.sentence("it has a mark then, if a register that was read has one: b");
        for (int op = 1; op <= 14; op++) {
            Checks.due("b of " + op, withMarks(op, 32, 1, false).mark(3), true);
            Checks.due("a without one", withMarks(op, 2, 1, false).mark(3), true);
            Checks.due("both", withMarks(op, 1, 1, false).mark(3), true);
        }
    }

    private static void markOfThePlace() {
        Checks.sentence("it has a mark then, if a register that was read has one: the place");
        PlainSteps x = Checks.ready();
        Checks.run(x, 0, row(0, 0, 0, 1), row(19, 0, 0, 0), row(0, 0, 0, 2), row(2, 32, 0, 3));
        Checks.due("before it has one", x.mark(1), false);
        Checks.due("as a", x.mark(2), true);
        Checks.due("as b", x.mark(3), true);
        Checks.due("what it reads", x.get(2), 202);
    }

    private static void markOfTheAddress() {
        Checks.sentence("of 13, 14: of the address");
        for (int op = 13; op <= 14; op++) {
            Checks.due("a of " + op, withMarks(op, 1, 32, false).mark(3), true);
            Checks.due("b of " + op, withMarks(op, 32, 1, false).mark(3), true);
            PlainSteps x = Checks.ready();
            Checks.define(x, 1, 0, row(19, 0, 0, 1), row(op + 2, 34, 1, 0), row(op, 34, 35, 2));
            Checks.words(x, 200, 0x0100);
            x.step(1);
            Checks.due("what memory was given has no mark, " + op, x.mark(2), false);
            Checks.due("it is read, " + op, x.get(2), 10);
        }
    }

    private static void markIsTaken() {
        Checks.sentence("else none");
        for (int op = 0; op <= 14; op++) {
            Checks.due("registers without one, " + op, withMarks(op, 2, 2, true).mark(3), false);
            Checks.due("a constant and a register, " + op, withMarks(op, 32, 2, true).mark(3), false);
            Checks.due("a constant alone, " + op, withMarks(op, 32, 32, true).mark(3), false);
        }
        Checks.due("a field", withMarks(1, 64, 64, true).mark(3), false);
    }

    private static void markOfItself() {
        Checks.sentence("it has a mark then, if a register that was read has one: to itself");
        PlainSteps x = Checks.ready();
        x.register(8);
        Checks.run(x, 0, row(1, 4, 32, 4), row(8, 4, 4, 4));
        Checks.due("a mark that was read stays", x.mark(4), true);
        PlainSteps y = Checks.ready();
        y.register(8);
        Checks.run(y, 0, row(0, 32, 32, 4), row(1, 4, 32, 4));
        Checks.due("a mark that was taken does not come again", y.mark(4), false);
    }

    private static void markOfTheUnread() {
        Checks.sentence("a register that was read: 0 reads a alone");
        Checks.due("b has a mark", withMarks(0, 2, 1, true).mark(3), false);
        Checks.due("b has a mark, a is a constant", withMarks(0, 32, 1, false).mark(3), false);
    }

    private static void faultLeavesTo() {
        Checks.sentence("a transfer that makes a fault writes nothing");
        int[][] rows = {row(4, 32, 35, 1), row(5, 32, 35, 1), row(13, 36, 35, 1), row(14, 32, 35, 1),
            row(4, 32, 35, 4), row(14, 36, 35, 4)};
        for (int[] r : rows) {
            PlainSteps x = Checks.ready();
            x.constant(4096);
            x.register(8);
            Checks.run(x, 0, r);
            Checks.due("one fault of " + r[0], x.counter(2), 1);
            Checks.due("the value", x.get(1), 10);
            Checks.due("no mark", x.mark(1), false);
            Checks.due("a mark stays", x.mark(4), true);
        }
    }

    private static PlainSteps stored(int op, long a, long b) {
        PlainSteps x = new PlainSteps();
        x.constant(a);
        x.constant(b);
        for (int at : new int[] {0, 1, 2, 10, 11, 12, 4093, 4094, 4095}) {
            x.memory(at, 7);
        }
        x.set(0, 512);
        return Checks.run(x, 0, row(op, 32, 33, 0));
    }

    private static void dueBytes(PlainSteps x, int at, int... want) {
        for (int i = 0; i < want.length; i++) {
            Checks.due("byte " + (at + i), x.byteAt(at + i), want[i]);
        }
    }

    private static void byteWritten() {
        Checks.sentence("15 the lowest byte of b comes to address a");
        dueBytes(stored(15, 0, 0x1234), 0, 0x34, 7);
        dueBytes(stored(15, 11, -1), 10, 7, 255, 7);
        dueBytes(stored(15, 10, 256), 10, 0, 7, 7);
        dueBytes(stored(15, 4095, TOP | 128), 4094, 7, 128);
        Checks.due("one is written", stored(15, 4095, 1).counter(5), 1);
    }

    private static void dueUnwritten(int op, long a) {
        PlainSteps x = stored(op, a, 0x5555);
        Checks.due("the fault of " + op + " at " + a, x.fault(0), 3);
        Checks.due("its place", x.fault(1), 512);
        Checks.due("none is written", x.counter(5), 0);
        dueBytes(x, 0, 7, 7, 7);
        dueBytes(x, 10, 7, 7, 7);
        dueBytes(x, 4093, 7, 7, 7);
    }

    private static void byteWrittenFaults() {
        Checks.sentence("15 (FAULT 3 likewise)");
        for (long a : new long[] {4096, 4097, -1, 65536, 1L << 32, (1L << 32) + 10, TOP, MOST}) {
            dueUnwritten(15, a);
        }
    }

    private static void wordWritten() {
        Checks.sentence("16 the lowest two bytes as a word");
        dueBytes(stored(16, 0, 0x561234), 0, 0x34, 0x12, 7);
        dueBytes(stored(16, 10, -2), 10, 254, 255, 7);
        dueBytes(stored(16, 10, 65536), 10, 0, 0, 7);
        dueBytes(stored(16, 4094, TOP | 0x8001), 4093, 7, 1, 128);
        Checks.due("two are written", stored(16, 4094, 1).counter(5), 2);
    }

    private static void wordWrittenFaults() {
        Checks.sentence("16 (FAULT 3 likewise: of a word also an odd address)");
        for (long a : new long[] {1, 11, 4093, 4095, 4096, -1, -2, 65536, 1L << 32, (1L << 32) + 10, TOP, MOST}) {
            dueUnwritten(16, a);
        }
    }

    private static void storesWriteNoRegister() {
        Checks.sentence("15 to 22 do not write to (but for 19's mark and 22's place)");
        for (int op : new int[] {15, 16, 17, 18, 20, 21}) {
            PlainSteps x = Checks.ready();
            Checks.interrupted(x);
            Checks.define(x, 1, 0, row(op, 34, 35, 1), row(op, 34, 35, 0));
            Checks.words(x, 64, 0x0100);
            x.step(1);
            Checks.due("no fault of " + op, x.counter(2), 0);
            Checks.due("the register, " + op, x.get(1), 10);
            Checks.due("its mark, " + op, x.mark(1), false);
            Checks.due("the place, " + op, x.get(0), 66);
        }
        PlainSteps y = Checks.ready();
        Checks.interrupted(y);
        Checks.define(y, 1, 0, row(22, 34, 35, 1));
        Checks.words(y, 64, 0x0100);
        y.step(1);
        Checks.due("22 leaves its to", y.get(1), 10);
    }

    private static void endWhenZero() {
        Checks.sentence("17 when a is 0, the transfers behind it are not done");
        long[][] wants = {{0, 5}, {1, 7}, {-1, 7}, {1L << 32, 7}, {TOP, 7}, {256, 7}};
        for (long[] want : wants) {
            PlainSteps x = new PlainSteps();
            x.register(8);
            x.constant(want[0]);
            x.constant(5);
            x.constant(7);
            Checks.run(x, 0, row(0, 33, 33, 1), row(17, 32, 33, 1), row(0, 34, 34, 1), row(19, 0, 0, 0));
            Checks.due("a " + want[0], x.get(1), want[1]);
            Checks.due("the last one, too", x.mark(0), want[0] != 0);
            Checks.due("how many", x.counter(8), want[0] == 0 ? 2 : 4);
            Checks.due("the instruction is done", x.counter(1), 1);
            Checks.due("no fault", x.counter(2), 0);
        }
    }

    private static void endOnlyOfItsInstruction() {
        Checks.sentence("17 when a is 0: the next instruction is done whole");
        PlainSteps x = Checks.ready();
        Checks.define(x, 1, 0, row(17, 35, 32, 0), row(0, 32, 32, 1));
        Checks.define(x, 2, 0, row(0, 33, 33, 1), row(0, 34, 34, 2));
        Checks.words(x, 200, 0x0100, 0x0200);
        x.step(1);
        Checks.due("not done", x.get(1), 10);
        Checks.due("the place", x.get(0), 202);
        x.step(1);
        Checks.due("done", x.get(1), 5);
        Checks.due("to its end", x.get(2), 400);
    }

    private static void toldFault() {
        Checks.sentence("18 when b is not 0, FAULT 8 + a modulo 8 (a's lowest three bits)");
        long[][] kinds = {{0, 8}, {1, 9}, {7, 15}, {8, 8}, {15, 15}, {16, 8}, {-1, 15}, {-8, 8}, {-7, 9}, {TOP, 8},
            {MOST, 15}, {(1L << 32) + 3, 11}};
        for (long[] kind : kinds) {
            for (long b : new long[] {1, -1, 1L << 32, TOP}) {
                dueFault((int) kind[1], 18, kind[0], b);
            }
        }
    }

    private static void toldFaultNot() {
        Checks.sentence("18 when b is 0, no fault");
        for (long a : new long[] {0, 1, 7, 8, -1}) {
            PlainSteps x = Checks.afterOne(18, a, 0, 8);
            Checks.due("kind", x.fault(0), 0);
            Checks.due("faults", x.counter(2), 0);
            Checks.due("done", x.counter(1), 1);
            Checks.due("the place", x.get(0), 514);
        }
    }

    private static void markAlone() {
        Checks.sentence("19 to has a mark (the mark alone)");
        PlainSteps x = Checks.ready();
        Checks.run(x, 0, row(19, 32, 33, 1), row(19, 32, 33, 1));
        Checks.due("the mark", x.mark(1), true);
        Checks.due("the value", x.get(1), 10);
        Checks.due("no other mark", x.mark(2), false);
    }

    private static void markAloneOfThePlace() {
        Checks.sentence("19 (that is no writing of the place, either)");
        PlainSteps x = Checks.ready();
        Checks.run(x, 0, row(19, 0, 0, 0));
        Checks.due("the mark", x.mark(0), true);
        Checks.due("the place", x.get(0), 202);
        PlainSteps y = Checks.ready();
        Checks.define(y, 1, 4, row(0, 34, 34, 0));
        Checks.define(y, 2, 0, row(19, 0, 0, 0));
        Checks.words(y, 200, 0x0100, 0x0200);
        y.step(2);
        Checks.due("a delayed place is not lost by it", y.get(0), 400);
        PlainSteps z = Checks.ready();
        Checks.define(z, 1, 4, row(19, 0, 0, 0));
        Checks.define(z, 2, 4, row(0, 34, 34, 0));
        Checks.words(z, 200, 0x0200, 0x0100, 0xff00);
        z.step(2);
        Checks.due("nor by a delayed one", z.get(0), 400);
        PlainSteps w = Checks.ready();
        Checks.define(w, 1, 4, row(19, 0, 0, 0));
        Checks.define(w, 2, 0);
        Checks.words(w, 200, 0x0100, 0x0200);
        w.step(2);
        Checks.due("of a delayed one, no place waits", w.get(0), 204);
    }

    private static void levelZero() {
        Checks.sentence("20 when the LEVEL is 0: FAULT 5");
        PlainSteps x = Checks.ready();
        Checks.run(x, 0, row(20, 32, 33, 1), row(0, 32, 32, 1));
        Checks.due("kind", x.fault(0), 5);
        Checks.due("its place", x.fault(1), 200);
        Checks.due("the place then", x.get(0), 20);
        Checks.due("nothing behind it", x.get(1), 10);
    }

    private static void levelOne() {
        Checks.sentence("20: no fault when the level is not 0");
        for (int rank : new int[] {1, 14}) {
            PlainSteps x = Checks.ready();
            x.enable(0, rank);
            x.line(0, true);
            x.step(1);
            Checks.run(x, 0, row(20, 0, 0, 0), row(0, 32, 32, 1));
            Checks.due("no fault at level " + rank, x.counter(2), 0);
            Checks.due("what is behind it", x.get(1), 1);
        }
        PlainSteps y = Checks.ready();
        Checks.keep(y, 1);
        y.set(0, 200);
        Checks.run(y, 0, row(20, 0, 0, 0));
        Checks.due("no fault at level 15", y.counter(2), 1);
    }

    private static void haltsBehindTheStep() {
        Checks.sentence("21 the machine HALTS behind this step");
        for (int how = 0; how < 8; how++) {
            PlainSteps x = Checks.ready();
            Checks.define(x, 1, how, row(0, 33, 33, 2), row(21, 0, 0, 0), row(0, 32, 32, 1), row(15, 34, 32, 0));
            Checks.words(x, 200, 0x0100, 0x0100);
            Checks.due("one step, " + how, x.step(5000), 1);
            Checks.due("halted, " + how, x.halted(), 1);
            Checks.due("what is before it is done, " + how, x.get(2), 5);
            Checks.due("what is behind it is done, " + how, x.get(1), 1);
            Checks.due("to the end, " + how, x.byteAt(400), 1);
            Checks.due("the place is behind it, " + how, x.get(0), 202);
            Checks.due("it is done, " + how, x.counter(1), 1);
        }
        PlainSteps y = Checks.ready();
        Checks.define(y, 1, 0, row(17, 35, 0, 0), row(21, 0, 0, 0));
        Checks.define(y, 2, 0);
        Checks.words(y, 200, 0x0100, 0x0200);
        Checks.due("21 that is not done", y.step(2), 2);
        Checks.due("does not halt", y.halted(), 0);
    }

    private static void backPlace() {
        Checks.sentence("22 BACK: the latest kept place is so again");
        PlainSteps x = Checks.ready();
        Checks.interrupted(x);
        Checks.run(x, 0, row(22, 0, 0, 0), row(0, 0, 0, 1));
        Checks.due("the place", x.get(0), 200);
        Checks.due("what is read behind it", x.get(1), 200);
        Checks.due("it is kept no more", x.counter(7), 0);
        PlainSteps y = Checks.ready();
        Checks.interrupted(y);
        Checks.run(y, 0, row(22, 0, 0, 0), row(1, 0, 33, 0));
        Checks.due("a writing behind it counts", y.get(0), 205);
        PlainSteps z = Checks.ready();
        z.set(0, 65535);
        Checks.interrupted(z);
        Checks.run(z, 0, row(22, 0, 0, 0));
        Checks.due("any place of 16 bits", z.get(0), 65535);
    }

    private static void backLevel() {
        Checks.sentence("22 BACK: the latest kept level is so again");
        PlainSteps x = Checks.ready();
        Checks.interrupted(x);
        Checks.run(x, 0, row(20, 0, 0, 0), row(22, 0, 0, 0), row(20, 0, 0, 0));
        Checks.due("20 in front of it made no fault, 20 behind it does", x.fault(0), 5);
        Checks.due("three were done", x.counter(8), 3);
        PlainSteps y = Checks.ready();
        Checks.interrupted(y);
        y.set(0, 201);
        y.step(1);
        Checks.due("of a fault", y.counter(6), 15);
        Checks.run(y, 0, row(22, 0, 0, 0));
        Checks.due("the interrupt's rank again", y.counter(6), 6);
    }

    private static void backWithoutMark() {
        Checks.sentence("22 (without a mark)");
        PlainSteps x = Checks.ready();
        Checks.define(x, 2, 0, row(19, 0, 0, 0));
        Checks.words(x, 200, 0x0200);
        x.step(1);
        Checks.interrupted(x);
        Checks.run(x, 0, row(19, 0, 0, 0), row(22, 0, 0, 0), row(0, 0, 0, 1));
        Checks.due("its place", x.get(0), 202);
        Checks.due("neither the mark of when it was kept nor that of now", x.mark(0), false);
        Checks.due("and read so", x.mark(1), false);
        for (int how = 0; how < 8; how++) {
            PlainSteps y = Checks.ready();
            Checks.define(y, 2, 0, row(19, 0, 0, 0));
            Checks.interrupted(y);
            Checks.words(y, 64, 0x0200);
            y.step(1);
            Checks.due("a mark before it, " + how, y.mark(0), true);
            Checks.run(y, how, row(22, 0, 0, 0));
            Checks.due("none behind it, " + how, y.mark(0), false);
        }
    }

    private static void backLatestFirst() {
        Checks.sentence("22 BACK: the latest kept");
        PlainSteps x = Checks.ready();
        Checks.define(x, 1, 0, row(22, 0, 0, 0));
        Checks.words(x, 600, 0x0100);
        for (int i = 0; i < 8; i++) {
            x.set(0, 301 + 2 * i);
            x.step(1);
        }
        Checks.due("eight are kept", x.counter(7), 8);
        for (int i = 7; i >= 0; i--) {
            x.set(0, 600);
            x.step(1);
            Checks.due("place " + i, x.get(0), 301 + 2 * i);
            Checks.due("level " + i, x.counter(6), i == 0 ? 0 : 15);
            Checks.due("kept behind " + i, x.counter(7), i);
        }
    }

    private static void backNoneKept() {
        Checks.sentence("22 (none kept: FAULT 6)");
        for (int how = 0; how < 8; how++) {
            PlainSteps x = Checks.ready();
            Checks.run(x, how, row(22, 0, 0, 0));
            Checks.due("kind, " + how, x.fault(0), 6);
            Checks.due("its place, " + how, x.fault(1), 200);
            Checks.due("the place then, " + how, x.get(0), 24);
            Checks.due("the fault is kept, " + how, x.counter(7), 1);
            PlainSteps y = Checks.ready();
            Checks.interrupted(y);
            Checks.run(y, how, row(22, 0, 0, 0), row(22, 0, 0, 0));
            Checks.due("one kept, two wanted, " + how, y.fault(0), 6);
            Checks.due("kept then, " + how, y.counter(7), (how & 2) != 0 ? 2 : 1);
        }
    }
}
