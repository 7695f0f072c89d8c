/** The examples of README.md, one behind the other on one object, with the answers that stand there. */
public final class ReadmeTest {
    private static final PlainSteps X = new PlainSteps();
    private static int r;
    private static int low;

    public static void main(String[] args) {
        firstExample();
        interruptExample();
        faultExample();
        Checks.finish();
    }

    private static void firstExample() {
        r = X.register(32);
        Checks.due("register", r, 1);
        Checks.due("mark", X.mark(r), true);
        low = X.field(0, 7, true);
        Checks.due("field", low, 64);
        X.transfer(1, r, low, r);
        X.instruction(0xff00, 0x0100, 0);
        X.memory(256, 7);
        X.memory(257, 1);
        X.set(r, 5);
        X.set(0, 256);
        Checks.due("step", X.step(1), 1);
        Checks.due("get(r)", X.get(r), 12);
        Checks.due("get(0)", X.get(0), 258);
    }

    private static void interruptExample() {
        X.transfer(22, 0, 0, 0);
        X.instruction(0xffff, 0x0200, 0);
        X.memory(73, 2);
        Checks.due("enable", X.enable(2, 5), 1);
        Checks.due("line", X.line(2, true), false);
        Checks.due("step", X.step(1), 1);
        Checks.due("get(0) behind the interrupt", X.get(0), 72);
        Checks.due("the level", X.counter(6), 5);
        X.line(2, false);
        X.step(1);
        Checks.due("get(0) behind BACK", X.get(0), 258);
    }

    private static void faultExample() {
        X.transfer(4, r, low, r);
        X.instruction(0xff00, 0x0300, 2);
        X.transfer(21, 0, 0, 0);
        X.instruction(0xffff, 0x0400, 0);
        X.memory(259, 3);
        X.memory(17, 4);
        Checks.due("step", X.step(5), 2);
        Checks.due("fault(0)", X.fault(0), 4);
        Checks.due("fault(1)", X.fault(1), 258);
        Checks.due("halted", X.halted(), 1);
        Checks.due("get(r)", X.get(r), 12);
    }
}
