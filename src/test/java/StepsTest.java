/** Promises 9 to 12, 15 and 16: step, set, get, mark, fault, halted. */
public final class StepsTest {
    private static final Class<IndexOutOfBoundsException> INDEX = IndexOutOfBoundsException.class;

    public static void main(String[] args) {
        stepCalls();
        setGetMark();
        fetches();
        faultsKeep();
        faultCalls();
        halts();
        haltThenFault();
        keptFull();
        keptFullMarks();
        back();
        backThenFault();
        needsLevel();
        Checks.finish();
    }

    private static void stepCalls() {
        PlainSteps x = new PlainSteps();
        for (int n : new int[] {0, -1, 5001, Integer.MIN_VALUE, Integer.MAX_VALUE}) {
            Checks.dueThrow("step " + n, IllegalArgumentException.class, () -> x.step(n));
        }
        x.constant(0);
        Checks.define(x, 0, 0, Checks.row(0, 32, 32, 0));
        Checks.due("most steps", x.step(5000), 5000);
        Checks.due("one", x.step(1), 1);
        Checks.due("all counted", x.counter(0), 5001);
        Checks.due("all done", x.counter(1), 5001);
        Checks.define(x, 1, 0, Checks.row(21, 0, 0, 0));
        Checks.words(x, 0, 0x100);
        Checks.due("until it halts", x.step(7), 1);
        Checks.dueThrow("halted", IllegalStateException.class, () -> x.step(1));
        Checks.dueThrow("the number first", IllegalArgumentException.class, () -> x.step(0));
        Checks.due("not counted", x.counter(0), 5002);
    }

    private static void setGetMark() {
        PlainSteps x = new PlainSteps();
        x.register(64);
        x.register(5);
        Checks.due("before", x.set(1, -9), 0);
        Checks.due("a wide one", x.get(1), -9);
        Checks.due("before then", x.set(1, 4), -9);
        Checks.due("marked still", x.mark(2), true);
        Checks.due("cut", x.set(2, 100), 0);
        Checks.due("to 5 bits", x.get(2), 4);
        Checks.due("without a mark", x.mark(2), false);
        for (int r : new int[] {-1, 3, 24, 32, Integer.MIN_VALUE, Integer.MAX_VALUE}) {
            Checks.dueThrow("set " + r, INDEX, () -> x.set(r, 0));
            Checks.dueThrow("get " + r, INDEX, () -> x.get(r));
            Checks.dueThrow("mark " + r, INDEX, () -> x.mark(r));
        }
        Checks.define(x, 1, 0, Checks.row(19, 0, 0, 0));
        Checks.define(x, 2, 0);
        Checks.words(x, 0, 0x100, 0x200);
        x.step(1);
        Checks.due("the place is marked", x.mark(0), true);
        Checks.due("and goes on", x.get(0), 2);
        x.step(1);
        Checks.due("its mark stays", x.mark(0), true);
        Checks.due("set", x.set(0, 0x10002), 4);
        Checks.due("without its mark", x.mark(0), false);
        Checks.due("cut to 16 bits", x.get(0), 2);
    }

    private static void fetches() {
        for (int place : new int[] {1, 4095, 4096, 4097, 65534, 65535}) {
            PlainSteps x = new PlainSteps();
            x.instruction(0, 0, 0);
            x.set(0, place);
            Checks.due("a step", x.step(1), 1);
            Checks.due("fault at " + place, x.fault(0), 2);
            Checks.due("place " + place, x.fault(1), place);
            Checks.due("behind", x.get(0), 8);
            Checks.due("no transfers", x.counter(8), 0);
        }
        PlainSteps x = new PlainSteps();
        x.register(64);
        x.field(0, 15, false);
        x.transfer(0, 64, 0, 1);
        x.transfer(0, 0, 0, 1);
        x.instruction(0xffff, 0x1234, 0);
        x.transfer(0, 64, 0, 1);
        x.instruction(0, 0, 0);
        Checks.words(x, 4092, 0x1234, 0xfedc);
        x.set(0, 4092);
        x.step(1);
        Checks.due("the place is 2 more for what is read", x.get(1), 4094);
        x.step(1);
        Checks.due("the last word, the low byte first", x.get(1), 0xfedc);
        Checks.due("behind memory", x.get(0), 4096);
        Checks.due("fetches are no reads", x.counter(4), 0);
    }

    private static void faultsKeep() {
        PlainSteps x = new PlainSteps();
        x.register(8);
        Checks.define(x, 1, 0, Checks.row(22, 0, 0, 0));
        Checks.define(x, 2, 0, Checks.row(19, 0, 0, 0));
        Checks.words(x, 4, 0x100);
        Checks.words(x, 100, 0x200, 0xff00);
        x.set(0, 100);
        x.step(2);
        Checks.due("kind", x.fault(0), 1);
        Checks.due("place", x.fault(1), 102);
        Checks.due("four times the kind", x.get(0), 4);
        Checks.due("without a mark", x.mark(0), false);
        Checks.due("level", x.counter(6), 15);
        Checks.due("kept", x.counter(7), 1);
        Checks.due("faults", x.counter(2), 1);
        Checks.due("done", x.counter(1), 1);
        x.step(1);
        Checks.due("back at the instruction", x.get(0), 102);
        Checks.due("at its level", x.counter(6), 0);
        Checks.due("nothing kept", x.counter(7), 0);
        Checks.due("the latest fault is told still", x.fault(0), 1);
    }

    private static void faultCalls() {
        PlainSteps x = new PlainSteps();
        for (int what : new int[] {-1, 2, Integer.MIN_VALUE, Integer.MAX_VALUE}) {
            Checks.dueThrow("fault " + what, INDEX, () -> x.fault(what));
        }
        x.set(0, 200);
        x.step(1);
        x.set(0, 301);
        x.step(1);
        Checks.due("the latest kind", x.fault(0), 2);
        Checks.due("the latest place", x.fault(1), 301);
    }

    private static void halts() {
        PlainSteps x = new PlainSteps();
        x.register(8);
        x.constant(3);
        Checks.define(x, 1, 0, Checks.row(21, 0, 0, 0), Checks.row(0, 32, 32, 1));
        Checks.words(x, 0, 0x100);
        Checks.due("it runs", x.halted(), 0);
        Checks.due("one step", x.step(3), 1);
        Checks.due("halted", x.halted(), 1);
        Checks.due("what is behind 21 is done", x.get(1), 3);
        Checks.due("the instruction is done", x.counter(1), 1);
        Checks.due("the place", x.get(0), 2);
        x.line(0, true);
        x.set(0, 0);
        Checks.dueThrow("it stays so", IllegalStateException.class, () -> x.step(1));
        Checks.due("still", x.halted(), 1);
    }

    private static void haltThenFault() {
        for (int how = 0; how < 8; how++) {
            boolean restoring = (how & 2) != 0;
            PlainSteps x = new PlainSteps();
            x.constant(1);
            Checks.define(x, 1, how, Checks.row(21, 0, 0, 0), Checks.row(18, 32, 32, 0));
            Checks.words(x, 100, 0x100);
            x.set(0, 100);
            x.step(1);
            Checks.due("halted, " + how, x.halted(), restoring ? 0 : 1);
            Checks.due("the fault is told, " + how, x.fault(0), 9);
            Checks.due("and done, " + how, x.get(0), 36);
            Checks.due("and kept, " + how, x.counter(7), 1);
            PlainSteps y = new PlainSteps();
            Checks.keep(y, 8);
            y.constant(1);
            Checks.define(y, 1, how, Checks.row(21, 0, 0, 0), Checks.row(18, 32, 32, 0));
            Checks.words(y, 100, 0x100);
            y.set(0, 100);
            y.step(1);
            Checks.due("with 2 instead, " + how, y.halted(), 2);
        }
    }

    private static void keptFull() {
        PlainSteps x = new PlainSteps();
        x.register(8);
        Checks.keep(x, 8);
        Checks.due("eight are kept", x.counter(7), 8);
        Checks.due("it runs", x.halted(), 0);
        x.constant(7);
        Checks.define(x, 1, 0, Checks.row(0, 32, 32, 1), Checks.row(0, 32, 32, 0), Checks.row(4, 32, 1, 1),
                Checks.row(2, 1, 1, 1), Checks.row(4, 1, 1, 1));
        Checks.words(x, 100, 0x100);
        x.set(0, 100);
        Checks.due("the step counts", x.step(5), 1);
        Checks.due("halted", x.halted(), 2);
        Checks.due("the place of the instruction", x.get(0), 100);
        Checks.due("told", x.fault(0), 4);
        Checks.due("its place", x.fault(1), 100);
        Checks.due("counted", x.counter(2), 9);
        Checks.due("nothing kept", x.counter(7), 8);
        Checks.due("steps", x.counter(0), 9);
        Checks.due("what was done stays", x.get(1), 0);
        Checks.due("transfers", x.counter(8), 5);
        Checks.dueThrow("no step", IllegalStateException.class, () -> x.step(1));
    }

    private static void keptFullMarks() {
        for (int how = 0; how < 8; how++) {
            PlainSteps x = new PlainSteps();
            Checks.keep(x, 8);
            x.constant(1);
            Checks.define(x, 1, how, Checks.row(19, 0, 0, 0), Checks.row(18, 32, 32, 0));
            Checks.words(x, 100, 0x100);
            x.set(0, 100);
            x.step(1);
            Checks.due("the place's mark is what was done, " + how, x.mark(0), (how & 3) == 0);
        }
    }

    private static void back() {
        PlainSteps x = new PlainSteps();
        x.register(16);
        Checks.define(x, 1, 0, Checks.row(22, 0, 0, 0), Checks.row(0, 0, 0, 1));
        Checks.define(x, 2, 0, Checks.row(22, 0, 0, 0), Checks.row(22, 0, 0, 0));
        Checks.words(x, 100, 0x100);
        x.set(0, 100);
        x.step(1);
        Checks.due("none kept", x.fault(0), 6);
        Checks.due("at 24", x.get(0), 24);
        Checks.words(x, 24, 0x100, 0x200);
        x.step(1);
        Checks.due("back", x.get(0), 100);
        Checks.due("the place reads so at once", x.get(1), 100);
        Checks.due("level", x.counter(6), 0);
        x.set(0, 301);
        x.step(1);
        x.set(0, 303);
        x.step(1);
        x.set(0, 26);
        Checks.due("two kept", x.counter(7), 2);
        x.step(1);
        Checks.due("back twice", x.get(0), 301);
        Checks.due("to the first level", x.counter(6), 0);
        Checks.due("none is kept", x.counter(7), 0);
    }

    private static void backThenFault() {
        for (int how = 0; how < 8; how++) {
            boolean restoring = (how & 2) != 0;
            PlainSteps x = new PlainSteps();
            x.constant(1);
            x.line(0, true);
            x.enable(0, 5);
            x.set(0, 50);
            x.step(1);
            Checks.due("level", x.counter(6), 5);
            Checks.define(x, 1, how, Checks.row(22, 0, 0, 0), Checks.row(18, 32, 32, 0));
            Checks.words(x, 64, 0x100);
            x.line(0, false);
            x.step(1);
            Checks.due("kept, " + how, x.counter(7), restoring ? 2 : 1);
            Checks.define(x, 2, 0, Checks.row(22, 0, 0, 0));
            Checks.words(x, 36, 0x200);
            x.step(1);
            Checks.due("the instruction's place was kept, " + how, x.get(0), 64);
            Checks.due("with the level then, " + how, x.counter(6), restoring ? 5 : 0);
        }
    }

    private static void needsLevel() {
        PlainSteps x = new PlainSteps();
        x.register(8);
        x.set(1, 0);
        Checks.define(x, 1, 0, Checks.row(20, 0, 0, 0), Checks.row(19, 0, 0, 1));
        Checks.words(x, 100, 0x100);
        Checks.words(x, 20, 0x100);
        x.set(0, 100);
        x.step(1);
        Checks.due("fault at level 0", x.fault(0), 5);
        Checks.due("nothing behind it", x.mark(1), false);
        x.step(1);
        Checks.due("none at level 15", x.counter(2), 1);
        Checks.due("done", x.mark(1), true);
    }
}
