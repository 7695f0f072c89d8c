/** Each op's result, cut and marks, at the edges of 64 bits. */
public final class TransfersTest {
    private static final long TOP = Long.MIN_VALUE;

    public static void main(String[] args) {
        results();
        cuts();
        noDivisor();
        marks();
        marksOfTheUnused();
        ending();
        toldFaults();
        Checks.finish();
    }

    private static void due(int op, long a, long b, long want) {
        Checks.due(op + " of " + a + ", " + b, Checks.afterOne(op, a, b, 64).get(1), want);
    }

    private static void results() {
        due(0, -7, 3, -7);
        due(1, Long.MAX_VALUE, 1, TOP);
        due(1, -1, 1, 0);
        due(2, 0, 1, -1);
        due(2, TOP, 1, Long.MAX_VALUE);
        due(3, 1L << 40, 1L << 30, 0);
        due(3, -3, 5, -15);
        due(4, 17, 5, 3);
        due(4, -1, 2, Long.MAX_VALUE);
        due(4, -1, 10, 1844674407370955161L);
        due(4, -1, 1, -1);
        due(4, -1, -1, 1);
        due(4, -2, -1, 0);
        due(4, TOP, -1, 0);
        due(4, -1, TOP, 1);
        due(4, 5, -3, 0);
        due(4, TOP, 3, 3074457345618258602L);
        due(5, 17, 5, 2);
        due(5, -1, 10, 5);
        due(5, -2, -1, -2);
        due(5, TOP, -1, TOP);
        due(5, -1, TOP, Long.MAX_VALUE);
        due(5, TOP, 3, 2);
        due(6, 12, 10, 8);
        due(7, 12, 10, 14);
        due(8, 12, 10, 6);
        due(9, 1, 63, TOP);
        due(9, 3, 0, 3);
        due(9, 1, 64, 0);
        due(9, -1, -1, 0);
        due(9, -1, 1L << 32, 0);
        due(10, TOP, 63, 1);
        due(10, -1, 1, Long.MAX_VALUE);
        due(10, -1, 0, -1);
        due(10, -1, 64, 0);
        due(10, -1, TOP, 0);
        due(11, 1, 2, 1);
        due(11, 2, 1, 0);
        due(11, 2, 2, 0);
        due(11, 1, -1, 1);
        due(11, -1, 1, 0);
        due(11, TOP, Long.MAX_VALUE, 0);
        due(12, -1, -1, 1);
        due(12, 1, 1L << 32 | 1, 0);
    }

    private static void cuts() {
        Checks.due("one bit", Checks.afterOne(0, 3, 0, 1).get(1), 1);
        Checks.due("31 bits", Checks.afterOne(0, -1, 0, 31).get(1), Integer.MAX_VALUE);
        Checks.due("63 bits", Checks.afterOne(0, -1, 0, 63).get(1), Long.MAX_VALUE);
        PlainSteps x = new PlainSteps();
        x.register(8);
        x.register(64);
        x.set(1, 255);
        Checks.define(x, 1, 0, Checks.row(1, 1, 1, 2));
        Checks.words(x, 0, 0x100);
        x.step(1);
        Checks.due("registers are read without sign", x.get(2), 510);
        PlainSteps y = new PlainSteps();
        y.constant(0x30004);
        Checks.define(y, 1, 0, Checks.row(0, 32, 32, 0));
        Checks.words(y, 0, 0x100);
        y.step(1);
        Checks.due("the place is cut to 16 bits", y.get(0), 4);
    }

    private static void noDivisor() {
        for (int op = 4; op <= 5; op++) {
            PlainSteps x = Checks.afterOne(op, 9, 0, 64);
            Checks.due("fault of " + op, x.fault(0), 4);
            Checks.due("its place", x.fault(1), 512);
            Checks.due("behind it", x.get(0), 16);
            Checks.due("counted as done", x.counter(8), 1);
            Checks.due("no instruction done", x.counter(1), 0);
        }
    }

    /** Register 1 is marked, 2 is not, 3 takes the result. */
    private static boolean marked(int op, int a, int b, boolean before) {
        PlainSteps x = new PlainSteps();
        x.register(8);
        x.register(8);
        x.register(8);
        x.constant(1);
        x.field(0, 1, false);
        x.set(2, 1);
        if (!before) {
            x.set(3, 0);
        }
        Checks.define(x, 1, 0, Checks.row(op, a, b, 3));
        Checks.words(x, 0, 0x100);
        x.step(1);
        return x.mark(3);
    }

    private static void marks() {
        for (int op = 1; op <= 13; op++) {
            if (op == 4 || op == 5) {
                continue;
            }
            Checks.due("the first's mark, " + op, marked(op, 1, 2, false), true);
            Checks.due("the second's mark, " + op, marked(op, 2, 1, false), true);
            Checks.due("no mark, " + op, marked(op, 2, 2, true), false);
            Checks.due("of a constant, " + op, marked(op, 32, 2, true), false);
            Checks.due("of a field, " + op, marked(op, 64, 32, true), false);
        }
        Checks.due("a divided mark", marked(4, 1, 2, false), true);
        Checks.due("a rest's mark", marked(5, 1, 2, false), true);
        Checks.due("a word's address with a mark", marked(14, 1, 64, false), true);
        Checks.due("19 marks", marked(19, 2, 2, false), true);
    }

    private static void marksOfTheUnused() {
        Checks.due("a copy reads a alone", marked(0, 2, 1, true), false);
        Checks.due("a copy takes a's mark", marked(0, 1, 2, false), true);
        PlainSteps x = new PlainSteps();
        x.register(8);
        x.set(1, 77);
        Checks.define(x, 1, 0, Checks.row(19, 0, 0, 1));
        Checks.words(x, 0, 0x100);
        x.step(1);
        Checks.due("19 leaves the value", x.get(1), 77);
        Checks.due("and marks", x.mark(1), true);
    }

    private static void ending() {
        for (int a = 0; a <= 1; a++) {
            PlainSteps x = new PlainSteps();
            x.register(8);
            x.constant(a == 0 ? 0 : 1L << 40);
            x.constant(5);
            Checks.define(x, 1, 0, Checks.row(0, 33, 33, 1), Checks.row(17, 32, 33, 0), Checks.row(1, 1, 33, 1));
            Checks.words(x, 0, 0x100);
            x.step(1);
            Checks.due("what is behind 17", x.get(1), a == 0 ? 5 : 10);
            Checks.due("transfers done", x.counter(8), a == 0 ? 2 : 3);
            Checks.due("an instruction done", x.counter(1), 1);
        }
    }

    private static void toldFaults() {
        for (int a = -1; a < 17; a++) {
            PlainSteps x = Checks.afterOne(18, a, 1L << 50, 8);
            Checks.due("kind", x.fault(0), 8 + (a & 7));
            Checks.due("place", x.get(0), 4 * (8 + (a & 7)));
            PlainSteps y = Checks.afterOne(18, a, 0, 8);
            Checks.due("no kind", y.fault(0), 0);
            Checks.due("one done", y.counter(1), 1);
        }
    }
}
