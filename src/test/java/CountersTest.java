/** Promise 17: counter. */
public final class CountersTest {
    public static void main(String[] args) {
        for (int what : new int[] {-1, 9, Integer.MIN_VALUE, Integer.MAX_VALUE}) {
            PlainSteps x = new PlainSteps();
            Checks.dueThrow("counter " + what, IndexOutOfBoundsException.class, () -> x.counter(what));
        }
        aRun();
        faultsAreNotDone();
        Checks.finish();
    }

    private static void due(PlainSteps x, String when, int... want) {
        for (int i = 0; i < want.length; i++) {
            Checks.due(when + ", counter " + i, x.counter(i), want[i]);
        }
    }

    private static void aRun() {
        PlainSteps x = new PlainSteps();
        x.register(16);
        x.constant(300);
        x.constant(0);
        Checks.define(x, 1, 0, Checks.row(13, 32, 33, 1), Checks.row(14, 32, 33, 1), Checks.row(14, 32, 33, 1));
        Checks.define(x, 2, 1, Checks.row(15, 32, 1, 0), Checks.row(16, 32, 1, 0));
        Checks.words(x, 100, 0x100, 0x200, 0xff00);
        x.set(0, 100);
        due(x, "before", 0, 0, 0, 0, 0, 0, 0, 0, 0);
        x.step(1);
        due(x, "read", 1, 1, 0, 0, 5, 0, 0, 0, 3);
        x.step(1);
        due(x, "written", 2, 2, 0, 0, 5, 3, 0, 0, 5);
        x.enable(6, 7);
        x.line(6, true);
        x.step(1);
        due(x, "interrupted", 3, 2, 0, 1, 5, 3, 7, 1, 5);
        x.step(1);
        due(x, "faulted", 4, 2, 1, 1, 5, 3, 15, 2, 5);
    }

    private static void faultsAreNotDone() {
        PlainSteps x = new PlainSteps();
        x.register(16);
        x.constant(4095);
        x.constant(0);
        Checks.define(x, 1, 2, Checks.row(13, 32, 33, 1), Checks.row(15, 32, 33, 0), Checks.row(14, 32, 33, 1),
                Checks.row(13, 32, 33, 1));
        Checks.words(x, 100, 0x100);
        x.set(0, 100);
        x.step(1);
        due(x, "a fault at the third", 1, 0, 1, 0, 1, 1, 15, 1, 3);
        x.set(0, 101);
        x.step(1);
        due(x, "none was fetched", 2, 0, 2, 0, 1, 1, 15, 2, 3);
    }
}
