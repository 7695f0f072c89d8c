/** Promises 7, 8, 10 to 14 and 17: a test for each sentence that names an edge. */
public final class CallEdgesTest {
    private static final Class<IllegalArgumentException> ARGUMENT = IllegalArgumentException.class;
    private static final Class<IndexOutOfBoundsException> INDEX = IndexOutOfBoundsException.class;
    private static final int LOWEST = Integer.MIN_VALUE;
    private static final int HIGHEST = Integer.MAX_VALUE;

    public static void main(String[] args) {
        memoryIsZeroAtFirst();
        memoryTheOneBefore();
        memoryBytesApart();
        memoryNoSuchByte();
        memoryNoByte();
        memoryExceptionsInOrder();
        byteAtEnds();
        byteAtWhatTransfersWrote();
        byteAtNoSuchByte();
        placeWidth();
        setCuts();
        setTheOneBefore();
        setWithoutMark();
        setNoSuchRegister();
        getWithoutSign();
        getNoSuchRegister();
        markOrNone();
        markNoSuchRegister();
        lineWhatItWas();
        lineNoSuchLine();
        enableTheOneBefore();
        enableNoSuchLine();
        enableNoSuchRank();
        enableExceptionsInOrder();
        counterSteps();
        counterDone();
        counterFaults();
        counterInterrupts();
        counterRead();
        counterWritten();
        counterWrittenThoughNothingIs();
        counterLevel();
        counterKept();
        counterTransfers();
        counterWrongWhat();
        Checks.finish();
    }

    private static int[] row(int op, int a, int b, int to) {
        return Checks.row(op, a, b, to);
    }

    /** Objects in turn, since none is promised more than 512 calls. */
    private static void memoryIsZeroAtFirst() {
        Checks.sentence("Terms: MEMORY has 4096 bytes, 0 at first");
        for (int from = 0; from < 4096; from += 512) {
            PlainSteps x = new PlainSteps();
            for (int at = from; at < from + 512; at++) {
                Checks.due("byte " + at, x.byteAt(at), 0);
            }
        }
    }

    private static void memoryTheOneBefore() {
        Checks.sentence("7: A byte of memory is another one: the one before");
        PlainSteps x = new PlainSteps();
        for (int at : new int[] {0, 1, 2048, 4094, 4095}) {
            Checks.due("0 at first", x.memory(at, 255), 0);
            Checks.due("255", x.memory(at, 128), 255);
            Checks.due("128", x.memory(at, 127), 128);
            Checks.due("127", x.memory(at, 0), 127);
            Checks.due("0", x.memory(at, 1), 0);
            Checks.due("1", x.byteAt(at), 1);
        }
    }

    private static void memoryBytesApart() {
        Checks.sentence("7: A byte of memory, and no other");
        PlainSteps x = new PlainSteps();
        for (int i = 0; i < 200; i++) {
            x.memory(i, i);
            x.memory(4095 - i, 255 - i);
        }
        for (int i = 0; i < 50; i++) {
            Checks.due("byte " + i, x.byteAt(i), i);
            Checks.due("byte " + (4095 - i), x.byteAt(4095 - i), 255 - i);
        }
    }

    private static void memoryNoSuchByte() {
        Checks.sentence("7: IndexOutOfBoundsException, when there is none");
        PlainSteps x = new PlainSteps();
        for (int at : new int[] {-1, 4096, 65536, LOWEST, HIGHEST}) {
            Checks.dueThrow("memory " + at, INDEX, () -> x.memory(at, 1));
        }
        Checks.due("the first byte", x.byteAt(0), 0);
        Checks.due("the last byte", x.byteAt(4095), 0);
    }

    private static void memoryNoByte() {
        Checks.sentence("7: IllegalArgumentException, when it is not 0 .. 255");
        PlainSteps x = new PlainSteps();
        x.memory(4095, 9);
        for (int b : new int[] {-1, 256, -128, LOWEST, HIGHEST}) {
            Checks.dueThrow("byte " + b, ARGUMENT, () -> x.memory(4095, b));
        }
        Checks.due("nothing changed", x.byteAt(4095), 9);
    }

    private static void memoryExceptionsInOrder() {
        Checks.sentence("Of several exceptions the first one told is thrown: memory");
        PlainSteps x = new PlainSteps();
        for (int at : new int[] {-1, 4096}) {
            for (int b : new int[] {-1, 256}) {
                Checks.dueThrow("memory " + at + ", " + b, INDEX, () -> x.memory(at, b));
            }
        }
    }

    private static void byteAtEnds() {
        Checks.sentence("8: A byte of memory");
        PlainSteps x = new PlainSteps();
        x.memory(0, 200);
        x.memory(4095, 255);
        Checks.due("the first", x.byteAt(0), 200);
        Checks.due("the last, without sign", x.byteAt(4095), 255);
        Checks.due("looking changes nothing", x.byteAt(4095), 255);
        Checks.due("nor is it counted", x.counter(4), 0);
    }

    private static void byteAtWhatTransfersWrote() {
        Checks.sentence("8: A byte of memory, as transfers wrote it");
        PlainSteps x = Checks.ready();
        x.set(1, 0xfe80);
        Checks.run(x, 0, row(16, 34, 1, 0));
        Checks.due("low, without sign", x.byteAt(400), 0x80);
        Checks.due("high, without sign", x.byteAt(401), 0xfe);
    }

    private static void byteAtNoSuchByte() {
        Checks.sentence("8: IndexOutOfBoundsException, when there is none");
        PlainSteps x = new PlainSteps();
        for (int at : new int[] {-1, 4096, 65536, LOWEST, HIGHEST}) {
            Checks.dueThrow("byteAt " + at, INDEX, () -> x.byteAt(at));
        }
    }

    private static void placeWidth() {
        Checks.sentence("Terms: THE PLACE, is there from the beginning, with 16 bits");
        PlainSteps x = new PlainSteps();
        Checks.due("0 before", x.set(0, 65535), 0);
        Checks.due("the greatest", x.set(0, 65536), 65535);
        Checks.due("one more", x.set(0, -1), 0);
        Checks.due("-1", x.set(0, 0x123456789L), 65535);
        Checks.due("cut", x.get(0), 0x6789);
    }

    private static void setCuts() {
        Checks.sentence("10: A register's value is another one, cut to its width");
        for (int bits : new int[] {1, 8, 31, 32, 33, 63, 64}) {
            PlainSteps x = new PlainSteps();
            x.register(bits);
            long cut = -1L >>> 64 - bits;
            for (long v : new long[] {-1, cut, cut + 1, 1L << bits - 1, Long.MIN_VALUE, Long.MAX_VALUE, 0, 1}) {
                x.set(1, v);
                Checks.due(v + " in " + bits + " bits", x.get(1), v & cut);
            }
        }
    }

    private static void setTheOneBefore() {
        Checks.sentence("10: the one before");
        PlainSteps x = new PlainSteps();
        x.register(8);
        x.register(64);
        Checks.due("0 at first", x.set(1, -1), 0);
        Checks.due("cut, without sign", x.set(1, 3), 255);
        Checks.due("then", x.set(1, 3), 3);
        Checks.due("0 of the other", x.set(2, Long.MIN_VALUE), 0);
        Checks.due("64 bits", x.set(2, 0), Long.MIN_VALUE);
    }

    private static void setWithoutMark() {
        Checks.sentence("10: without a mark");
        PlainSteps x = new PlainSteps();
        x.register(8);
        x.register(8);
        x.set(1, 0);
        Checks.due("though the value is the same", x.mark(1), false);
        Checks.due("the other's stays", x.mark(2), true);
        Checks.define(x, 0, 0, row(19, 0, 0, 0), row(19, 0, 0, 1));
        x.step(1);
        Checks.due("marked again", x.mark(1), true);
        x.set(1, 0);
        Checks.due("and taken again", x.mark(1), false);
        Checks.due("the place's mark", x.mark(0), true);
        x.set(0, 2);
        Checks.due("is taken, too", x.mark(0), false);
    }

    private static void setNoSuchRegister() {
        Checks.sentence("10: IndexOutOfBoundsException, when there is none");
        PlainSteps x = new PlainSteps();
        x.register(8);
        x.constant(1);
        x.field(0, 0, false);
        for (int r : new int[] {-1, 2, 23, 24, 32, 64, LOWEST, HIGHEST}) {
            Checks.dueThrow("set " + r, INDEX, () -> x.set(r, 1));
        }
        Checks.due("nothing changed", x.get(1), 0);
        Checks.due("nor a mark", x.mark(1), true);
        Checks.due("nor the place", x.get(0), 0);
        x.register(8);
        Checks.due("when it is there", x.set(2, 1), 0);
    }

    private static void getWithoutSign() {
        Checks.sentence("11: A register's value (without sign)");
        PlainSteps x = new PlainSteps();
        for (int bits : new int[] {1, 16, 32, 63}) {
            int r = x.register(bits);
            x.set(r, -1);
            Checks.due(bits + " bits", x.get(r), (1L << bits) - 1);
            Checks.due("looking changes nothing", x.get(r), (1L << bits) - 1);
        }
        int marked = x.register(8);
        Checks.due("of one with a mark", x.get(marked), 0);
        Checks.due("looking leaves the mark", x.mark(marked), true);
    }

    private static void getNoSuchRegister() {
        Checks.sentence("11: IndexOutOfBoundsException, when there is none");
        PlainSteps x = new PlainSteps();
        x.register(8);
        x.constant(1);
        x.field(0, 0, false);
        for (int r : new int[] {-1, 2, 23, 24, 32, 64, LOWEST, HIGHEST}) {
            Checks.dueThrow("get " + r, INDEX, () -> x.get(r));
        }
    }

    private static void markOrNone() {
        Checks.sentence("12: Whether a register has a mark");
        PlainSteps x = new PlainSteps();
        Checks.due("the place of a new one", x.mark(0), false);
        x.register(8);
        Checks.due("a new register", x.mark(1), true);
        Checks.due("looking changes nothing", x.mark(1), true);
        x.set(1, 5);
        Checks.due("behind a set", x.mark(1), false);
    }

    private static void markNoSuchRegister() {
        Checks.sentence("12: IndexOutOfBoundsException, when there is none");
        PlainSteps x = new PlainSteps();
        x.register(8);
        x.constant(1);
        x.field(0, 0, false);
        for (int r : new int[] {-1, 2, 23, 24, 32, 64, LOWEST, HIGHEST}) {
            Checks.dueThrow("mark " + r, INDEX, () -> x.mark(r));
        }
    }

    private static void lineWhatItWas() {
        Checks.sentence("13: A line is on or off: what it was");
        PlainSteps x = new PlainSteps();
        for (int i = 0; i < 8; i++) {
            Checks.due("off at first, " + i, x.line(i, false), false);
            Checks.due("off still, " + i, x.line(i, true), false);
            Checks.due("on, " + i, x.line(i, true), true);
            Checks.due("on still, " + i, x.line(i, false), true);
            Checks.due("off, " + i, x.line(i, true), false);
        }
        Checks.due("each its own", x.line(0, true), true);
    }

    private static void lineNoSuchLine() {
        Checks.sentence("13: IndexOutOfBoundsException, when there is none");
        PlainSteps x = new PlainSteps();
        for (int line : new int[] {-1, 8, 9, LOWEST, HIGHEST}) {
            Checks.dueThrow("line " + line + " on", INDEX, () -> x.line(line, true));
            Checks.dueThrow("line " + line + " off", INDEX, () -> x.line(line, false));
        }
        for (int i = 0; i < 8; i++) {
            Checks.due("line " + i + " is off still", x.line(i, false), false);
        }
    }

    private static void enableTheOneBefore() {
        Checks.sentence("14: A line's rank (0: not enabled; 1 .. 14): the one before, 0 when it was not enabled");
        PlainSteps x = new PlainSteps();
        for (int i = 0; i < 8; i++) {
            Checks.due("1 at first, " + i, x.enable(i, 14), 1);
            Checks.due("14, " + i, x.enable(i, 0), 14);
            Checks.due("0, " + i, x.enable(i, 0), 0);
            Checks.due("0 still, " + i, x.enable(i, 1), 0);
            Checks.due("1, " + i, x.enable(i, 2 + i), 1);
        }
        Checks.due("each its own", x.enable(0, 1), 2);
        Checks.due("the last one's", x.enable(7, 1), 9);
        Checks.due("a line is not turned on by it", x.line(7, false), false);
    }

    private static void enableNoSuchLine() {
        Checks.sentence("14: IndexOutOfBoundsException, when there is no such line");
        PlainSteps x = new PlainSteps();
        for (int line : new int[] {-1, 8, 9, LOWEST, HIGHEST}) {
            Checks.dueThrow("enable " + line, INDEX, () -> x.enable(line, 3));
        }
        for (int i = 0; i < 8; i++) {
            Checks.due("rank of " + i, x.enable(i, 1), 1);
        }
    }

    private static void enableNoSuchRank() {
        Checks.sentence("14: IllegalArgumentException, when rank is none of these");
        PlainSteps x = new PlainSteps();
        for (int rank : new int[] {-1, 15, 16, LOWEST, HIGHEST}) {
            Checks.dueThrow("rank " + rank, ARGUMENT, () -> x.enable(7, rank));
        }
        Checks.due("nothing changed", x.enable(7, 1), 1);
    }

    private static void enableExceptionsInOrder() {
        Checks.sentence("Of several exceptions the first one told is thrown: enable");
        PlainSteps x = new PlainSteps();
        for (int line : new int[] {-1, 8}) {
            for (int rank : new int[] {-1, 15}) {
                Checks.dueThrow("enable " + line + ", " + rank, INDEX, () -> x.enable(line, rank));
            }
        }
    }

    private static void counterSteps() {
        Checks.sentence("17: Steps (0)");
        PlainSteps x = Checks.run(Checks.ready(), 0);
        Checks.due("an instruction", x.counter(0), 1);
        x.step(1);
        Checks.due("a fault", x.counter(0), 2);
        Checks.dueThrow("a refused step", ARGUMENT, () -> x.step(0));
        Checks.due("is none", x.counter(0), 2);
        PlainSteps y = Checks.ready();
        y.line(0, true);
        y.step(1);
        Checks.due("an interrupt", y.counter(0), 1);
    }

    private static void counterDone() {
        Checks.sentence("17: instructions done without a fault (1)");
        PlainSteps x = Checks.run(Checks.ready(), 0);
        Checks.due("without transfers", x.counter(1), 1);
        Checks.due("ended by 17", Checks.run(Checks.ready(), 0, row(17, 35, 0, 0), row(4, 32, 35, 1)).counter(1), 1);
        Checks.due("that halts", Checks.run(Checks.ready(), 0, row(21, 0, 0, 0)).counter(1), 1);
        for (int how = 0; how < 8; how++) {
            PlainSteps y = Checks.run(Checks.ready(), how, row(0, 32, 32, 1), row(4, 32, 35, 1));
            Checks.due("with a fault, " + how, y.counter(1), 0);
        }
        x.step(1);
        Checks.due("none was there", x.counter(1), 1);
        x.set(0, 1);
        x.step(1);
        Checks.due("none was fetched", x.counter(1), 1);
        PlainSteps z = Checks.ready();
        z.instruction(0, 0, 0);
        z.line(0, true);
        z.step(1);
        Checks.due("an interrupt", z.counter(1), 0);
    }

    private static void counterFaults() {
        Checks.sentence("17: faults (2)");
        PlainSteps x = Checks.ready();
        for (int i = 1; i <= 9; i++) {
            x.set(0, i % 2 == 0 ? 200 : 201);
            x.step(1);
            Checks.due("faults, the ninth one that halts, too", x.counter(2), i);
        }
        PlainSteps y = Checks.run(Checks.ready(), 2, row(4, 32, 35, 1));
        Checks.due("of a restoring one", y.counter(2), 1);
        PlainSteps z = Checks.ready();
        z.line(0, true);
        z.step(1);
        Checks.due("an interrupt is none", z.counter(2), 0);
    }

    private static void counterInterrupts() {
        Checks.sentence("17: interrupts (3)");
        PlainSteps x = Checks.ready();
        for (int rank = 1; rank <= 8; rank++) {
            x.enable(0, rank);
            x.line(0, true);
            x.step(1);
            Checks.due("interrupts", x.counter(3), rank);
        }
        x.enable(0, 9);
        x.step(1);
        Checks.due("the ninth one that halts is none", x.counter(3), 8);
        PlainSteps y = Checks.ready();
        y.step(1);
        Checks.due("a fault is none", y.counter(3), 0);
    }

    private static void counterRead() {
        Checks.sentence("17: bytes read by transfers (4; a word two)");
        Checks.due("a byte", Checks.run(Checks.ready(), 0, row(13, 34, 35, 1)).counter(4), 1);
        Checks.due("a word", Checks.run(Checks.ready(), 0, row(14, 34, 35, 1)).counter(4), 2);
        for (int how = 0; how < 8; how++) {
            PlainSteps x = Checks.run(Checks.ready(), how, row(13, 34, 35, 1), row(14, 34, 35, 1), row(14, 32, 35, 1));
            Checks.due("not what made a fault, " + how, x.counter(4), 3);
            Checks.due("none are written, " + how, x.counter(5), 0);
        }
        PlainSteps y = Checks.run(Checks.ready(), 0, row(17, 35, 35, 0), row(13, 34, 35, 1));
        Checks.due("not behind 17", y.counter(4), 0);
        y.byteAt(400);
        y.memory(400, 1);
        Checks.due("nor by calls or fetches", y.counter(4), 0);
    }

    private static void counterWritten() {
        Checks.sentence("17: written (5)");
        Checks.due("a byte", Checks.run(Checks.ready(), 0, row(15, 34, 35, 1)).counter(5), 1);
        Checks.due("a word", Checks.run(Checks.ready(), 0, row(16, 34, 35, 1)).counter(5), 2);
        for (int how = 0; how < 8; how++) {
            PlainSteps x = Checks.run(Checks.ready(), how, row(15, 34, 35, 0), row(16, 34, 35, 0), row(16, 32, 35, 0));
            Checks.due("not what made a fault, " + how, x.counter(5), 3);
            Checks.due("none are read, " + how, x.counter(4), 0);
        }
        PlainSteps y = Checks.run(Checks.ready(), 0, row(17, 35, 35, 0), row(15, 34, 35, 1));
        Checks.due("not behind 17", y.counter(5), 0);
        y.memory(400, 1);
        Checks.due("nor by calls", y.counter(5), 0);
    }

    private static void counterWrittenThoughNothingIs() {
        Checks.sentence("17: written (when the transfer is done, also of parallel and restored ones)");
        for (int how = 0; how < 8; how++) {
            PlainSteps x = Checks.run(Checks.ready(), how, row(15, 34, 33, 0), row(16, 34, 33, 0), row(18, 35, 32, 0));
            Checks.due("counted, " + how, x.counter(5), 3);
            Checks.due("is it there, " + how, x.byteAt(400), how % 4 == 0 ? 5 : 0);
            PlainSteps y = Checks.run(Checks.ready(), how, row(15, 34, 33, 0), row(15, 34, 33, 0));
            Checks.due("one byte twice, " + how, y.counter(5), 2);
        }
    }

    private static void counterLevel() {
        Checks.sentence("17: the level (6)");
        for (int rank : new int[] {1, 14}) {
            PlainSteps x = Checks.ready();
            Checks.due("0 at first", x.counter(6), 0);
            x.enable(5, rank);
            x.line(5, true);
            x.step(1);
            Checks.due("an interrupt's rank", x.counter(6), rank);
            x.enable(5, 0);
            Checks.due("not the rank of later", x.counter(6), rank);
            x.step(1);
            Checks.due("a fault's", x.counter(6), 15);
        }
    }

    private static void counterKept() {
        Checks.sentence("17: places kept (7)");
        PlainSteps x = Checks.ready();
        Checks.due("none at first", x.counter(7), 0);
        Checks.interrupted(x);
        Checks.due("an interrupt's", x.counter(7), 1);
        x.step(1);
        Checks.due("a fault's", x.counter(7), 2);
        Checks.run(x, 0, row(22, 0, 0, 0));
        Checks.due("behind 22", x.counter(7), 1);
    }

    private static void counterTransfers() {
        Checks.sentence("17: transfers done (8; one that made a fault, too)");
        Checks.due("none", Checks.run(Checks.ready(), 0).counter(8), 0);
        Checks.due("two", Checks.run(Checks.ready(), 0, row(0, 32, 32, 1), row(21, 0, 0, 0)).counter(8), 2);
        PlainSteps ended = Checks.run(Checks.ready(), 0, row(17, 35, 0, 0), row(0, 32, 32, 1));
        Checks.due("17, not those behind it", ended.counter(8), 1);
        for (int how = 0; how < 8; how++) {
            PlainSteps x = Checks.run(Checks.ready(), how, row(0, 32, 32, 1), row(18, 35, 32, 0), row(0, 32, 32, 2));
            Checks.due("the one that made a fault, " + how, x.counter(8), 2);
            x.step(1);
            Checks.due("none without an instruction, " + how, x.counter(8), 2);
        }
        int[][] faults = {row(4, 32, 35, 1), row(5, 32, 35, 1), row(14, 32, 35, 1), row(16, 32, 35, 1),
            row(20, 0, 0, 0), row(22, 0, 0, 0)};
        for (int[] fault : faults) {
            Checks.due("a fault of " + fault[0], Checks.run(Checks.ready(), 0, fault).counter(8), 1);
        }
    }

    private static void counterWrongWhat() {
        Checks.sentence("17: IndexOutOfBoundsException, for another what");
        PlainSteps x = new PlainSteps();
        for (int what : new int[] {-1, 9, 10, LOWEST, HIGHEST}) {
            Checks.dueThrow("counter " + what, INDEX, () -> x.counter(what));
        }
        for (int what = 0; what < 9; what++) {
            Checks.due("counter " + what + " of a new one", x.counter(what), 0);
        }
    }
}
