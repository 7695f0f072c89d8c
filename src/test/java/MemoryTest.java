/** Promises 7 and 8, and the transfers that reach memory. */
public final class MemoryTest {
    public static void main(String[] args) {
        bytes();
        wrongCalls();
        loads();
        stores();
        Checks.finish();
    }

    private static void bytes() {
        PlainSteps x = new PlainSteps();
        for (int at : new int[] {0, 1, 2047, 4095}) {
            Checks.due("before", x.memory(at, 255), 0);
            Checks.due("now", x.byteAt(at), 255);
            Checks.due("then", x.memory(at, 128), 255);
            Checks.due("and then", x.memory(at, 0), 128);
            Checks.due("zero again", x.byteAt(at), 0);
        }
    }

    private static void wrongCalls() {
        PlainSteps x = new PlainSteps();
        for (int at : new int[] {-1, 4096, Integer.MIN_VALUE, Integer.MAX_VALUE}) {
            Checks.dueThrow("memory " + at, IndexOutOfBoundsException.class, () -> x.memory(at, 0));
            Checks.dueThrow("the address first", IndexOutOfBoundsException.class, () -> x.memory(at, 256));
            Checks.dueThrow("byteAt " + at, IndexOutOfBoundsException.class, () -> x.byteAt(at));
        }
        for (int b : new int[] {-1, 256, Integer.MIN_VALUE, Integer.MAX_VALUE}) {
            Checks.dueThrow("byte " + b, IllegalArgumentException.class, () -> x.memory(0, b));
        }
        Checks.due("nothing changed", x.byteAt(0), 0);
    }

    /** One load at place 512; address is the sum of two constants. */
    private static PlainSteps load(int op, long a, long b) {
        PlainSteps x = new PlainSteps();
        x.register(64);
        x.constant(a);
        x.constant(b);
        Checks.define(x, 1, 0, Checks.row(op, 32, 33, 1));
        Checks.words(x, 512, 0x100);
        Checks.words(x, 0, 0xfe81);
        Checks.words(x, 4094, 0xc3b2);
        x.set(0, 512);
        x.step(1);
        return x;
    }

    private static void loads() {
        Checks.due("byte 0", load(13, 0, 0).get(1), 0x81);
        Checks.due("byte 1", load(13, 2, -1).get(1), 0xfe);
        Checks.due("byte 4095", load(13, 4000, 95).get(1), 0xc3);
        Checks.due("word 0", load(14, 1, -1).get(1), 0xfe81);
        Checks.due("word 4094", load(14, 4094, 0).get(1), 0xc3b2);
        Checks.due("one byte read", load(13, 0, 0).counter(4), 1);
        Checks.due("two bytes read", load(14, 0, 0).counter(4), 2);
        Checks.due("none written", load(14, 0, 0).counter(5), 0);
        long[][] wrong = {{13, 4096, 0}, {13, -1, 0}, {13, 1L << 32, 0}, {14, 4095, 0}, {14, 1, 0}, {14, 4096, 0},
            {14, -2, 0}, {14, 1L << 40, 0}, {13, Long.MAX_VALUE, 1}};
        for (long[] w : wrong) {
            PlainSteps x = load((int) w[0], w[1], w[2]);
            Checks.due("fault at " + w[1], x.fault(0), 3);
            Checks.due("not read", x.counter(4), 0);
            Checks.due("not written", x.mark(1), true);
        }
    }

    private static PlainSteps store(int op, long a, long b) {
        PlainSteps x = new PlainSteps();
        x.constant(a);
        x.constant(b);
        Checks.define(x, 1, 0, Checks.row(op, 32, 33, 0));
        Checks.words(x, 512, 0x100);
        x.memory(11, 7);
        x.set(0, 512);
        x.step(1);
        return x;
    }

    private static void stores() {
        PlainSteps one = store(15, 10, 0x1234);
        Checks.due("the lowest byte", one.byteAt(10), 0x34);
        Checks.due("alone", one.byteAt(11), 7);
        Checks.due("one written", one.counter(5), 1);
        Checks.due("none read", one.counter(4), 0);
        Checks.due("the place is not to", one.get(0), 514);
        PlainSteps two = store(16, 10, 0xff1234);
        Checks.due("the low byte", two.byteAt(10), 0x34);
        Checks.due("the high byte", two.byteAt(11), 0x12);
        Checks.due("no third", two.byteAt(12), 0);
        Checks.due("two written", two.counter(5), 2);
        Checks.due("the last byte", store(15, 4095, 9).byteAt(4095), 9);
        Checks.due("the last word", store(16, 4094, 0x900).byteAt(4095), 9);
        long[][] wrong = {{15, 4096}, {15, -1}, {15, 1L << 32}, {16, 11}, {16, 4095}, {16, 4096}, {16, -2}};
        for (long[] w : wrong) {
            PlainSteps x = store((int) w[0], w[1], 5);
            Checks.due("fault at " + w[1], x.fault(0), 3);
            Checks.due("none written at " + w[1], x.counter(5), 0);
            Checks.due("nothing changed", x.byteAt(11), 7);
        }
    }
}
