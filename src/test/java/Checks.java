/** What the tests share: answers compared with what is due, and short ways to set up a machine. */
final class Checks {
    private static int wrong = 0;
    private static int made = 0;
    private static String sentence = "";

    private Checks() {
    }

    interface Call {
        void run();
    }

    /** The document's sentence that the next answers belong to; a wrong one is printed with it. */
    static void sentence(String told) {
        sentence = "[" + told + "] ";
    }

    static void due(String what, long got, long want) {
        made++;
        if (got != want) {
            wrong++;
            System.out.println(sentence + what + " answered " + got + ", due is " + want);
        }
    }

    static void due(String what, boolean got, boolean want) {
        due(what, got ? 1 : 0, want ? 1 : 0);
    }

    static void dueThrow(String what, Class<? extends RuntimeException> want, Call call) {
        made++;
        Class<?> got = null;
        try {
            call.run();
        } catch (RuntimeException e) {
            got = e.getClass();
        }
        if (got != want) {
            wrong++;
            System.out.println(sentence + what + " threw " + got + ", due is " + want);
        }
    }

    static void finish() {
        System.out.println(made + " answers looked at, " + wrong + " not as due");
        if (wrong != 0) {
            System.exit(1);
        }
    }

    /** Words one behind the other, the low byte first. */
    static void words(PlainSteps x, int at, int... words) {
        for (int i = 0; i < words.length; i++) {
            x.memory(at + 2 * i, words[i] & 255);
            x.memory(at + 2 * i + 1, words[i] >> 8 & 255);
        }
    }

    /** An instruction for the words with this high byte; each row is op, a, b, to. */
    static int define(PlainSteps x, int highByte, int how, int[]... rows) {
        for (int[] row : rows) {
            x.transfer(row[0], row[1], row[2], row[3]);
        }
        return x.instruction(0xff00, highByte << 8, how);
    }

    /** Defines one instruction of these rows, for words with the high byte 1, and does it at the place. */
    static PlainSteps run(PlainSteps x, int how, int[]... rows) {
        define(x, 1, how, rows);
        words(x, (int) x.get(0), 0x0100);
        x.step(1);
        return x;
    }

    static int[] row(int op, int a, int b, int to) {
        return new int[] {op, a, b, to};
    }

    /** Registers 1 to 3 of 16 bits with 10, 20, 30; constants 32 to 35 are 1, 5, 400, 0; the place is 200. */
    static PlainSteps ready() {
        PlainSteps x = new PlainSteps();
        for (int i = 1; i <= 3; i++) {
            x.register(16);
            x.set(i, 10 * i);
        }
        x.constant(1);
        x.constant(5);
        x.constant(400);
        x.constant(0);
        x.set(0, 200);
        return x;
    }

    /** Takes an interrupt, so that the place and level 0 are kept and the place is 64 with level 6. */
    static void interrupted(PlainSteps x) {
        x.enable(0, 6);
        x.line(0, true);
        x.step(1);
        x.line(0, false);
    }

    /** Faults of an odd place, until so many are kept or the machine has halted. */
    static void keep(PlainSteps x, int many) {
        while (x.halted() == 0 && x.counter(7) < many) {
            x.set(0, 1);
            x.step(1);
        }
    }

    /** Runs one transfer at place 512 on a register of the given width, with 64-bit constants a and b. */
    static PlainSteps afterOne(int op, long a, long b, int bits) {
        PlainSteps x = new PlainSteps();
        x.register(bits);
        x.constant(a);
        x.constant(b);
        define(x, 1, 0, row(op, 32, 33, 1));
        words(x, 512, 0x0100);
        x.set(0, 512);
        x.step(1);
        return x;
    }
}
