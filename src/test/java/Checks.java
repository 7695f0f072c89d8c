/** What the tests share: answers compared with what is due, and short ways to set up a machine. */
final class Checks {
    private static int wrong = 0;
    private static int made = 0;

    private Checks() {
    }

    interface Call {
        void run();
    }

    static void due(String what, long got, long want) {
        made++;
        if (got != want) {
            wrong++;
            System.out.println(what + " answered " + got + ", due is " + want);
        }
    }

    static void due(String what, boolean got, boolean want) {
        due(what, got ? 1 : 0, want ? 1 : 0);
    }

    static void dueThrow(String what, Class<? extends RuntimeException> want, Call call) {
        made++;
        Class<?> got = null;
        try {
            call.run();
        } catch (RuntimeException e) {
            got = e.getClass();
        }
        if (got != want) {
            wrong++;
            System.out.println(what + " threw " + got + ", due is " + want);
        }
    }

    static void finish() {
        System.out.println(made + " answers looked at, " + wrong + " not as due");
        if (wrong != 0) {
            System.exit(1);
        }
    }

    /** Words one behind the other, the low byte first. */
    static void words(PlainSteps x, int at, int... words) {
        for (int i = 0; i < words.length; i++) {
            x.memory(at + 2 * i, words[i] & 255);
            x.memory(at + 2 * i + 1, words[i] >> 8 & 255);
        }
    }

    /** An instruction for the words with this high byte; each row is op, a, b, to. */
    static int define(PlainSteps x, int highByte, int how, int[]... rows) {
        for (int[] row : rows) {
            x.transfer(row[0], row[1], row[2], row[3]);
        }
        return x.instruction(0xff00, highByte << 8, how);
    }

    static int[] row(int op, int a, int b, int to) {
        return new int[] {op, a, b, to};
    }

    /** Runs one transfer at place 512 on a register of the given width, with 64-bit constants a and b. */
    static PlainSteps afterOne(int op, long a, long b, int bits) {
        PlainSteps x = new PlainSteps();
        x.register(bits);
        x.constant(a);
        x.constant(b);
        define(x, 1, 0, row(op, 32, 33, 1));
        words(x, 512, 0x0100);
        x.set(0, 512);
        x.step(1);
        return x;
    }
}
