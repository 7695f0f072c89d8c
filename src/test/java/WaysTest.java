/** Parallel, restoring and delayed instructions (promise 6's how, told in the document's terms). */
public final class WaysTest {
    public static void main(String[] args) {
        parallelReads();
        parallelOrder();
        parallelFault();
        parallelPlace();
        parallelBack();
        parallelBackAndWrites();
        parallelLevel();
        parallelBackClearsTheMark();
        oneBehindAnother();
        mostTransfers();
        restoringBytes();
        restoringAll();
        restoringWithoutFault();
        restoringNot();
        delayedJump();
        delayedReads();
        delayedLost();
        delayedBehindDelayed();
        delayedMarks();
        delayedMarkAlone();
        delayedBack();
        delayedHalt();
        delayedParallel();
        setLosesDelayed();
        Checks.finish();
    }

    private static PlainSteps ready() {
        return Checks.ready();
    }

    private static int[] row(int op, int a, int b, int to) {
        return Checks.row(op, a, b, to);
    }

    private static void parallelReads() {
        PlainSteps x = ready();
        Checks.define(x, 1, 1, row(0, 1, 1, 2), row(0, 2, 2, 1), row(15, 34, 32, 0), row(13, 34, 35, 3));
        Checks.words(x, 200, 0x100);
        x.memory(400, 77);
        x.step(1);
        Checks.due("exchanged", x.get(1), 20);
        Checks.due("both", x.get(2), 10);
        Checks.due("memory as before", x.get(3), 77);
        Checks.due("written behind it", x.byteAt(400), 1);
        Checks.due("read", x.counter(4), 1);
        Checks.due("written", x.counter(5), 1);
    }

    private static void parallelOrder() {
        PlainSteps x = ready();
        Checks.define(x, 1, 1, row(0, 32, 32, 1), row(0, 33, 33, 1), row(19, 0, 0, 2), row(1, 2, 32, 2),
                row(1, 3, 32, 3), row(19, 0, 0, 3), row(15, 34, 32, 0), row(16, 34, 33, 0), row(0, 3, 3, 1));
        Checks.words(x, 200, 0x100);
        x.memory(401, 9);
        x.step(1);
        Checks.due("the last write", x.get(1), 30);
        Checks.due("without the mark of later", x.mark(1), false);
        Checks.due("a write behind 19", x.mark(2), false);
        Checks.due("its value", x.get(2), 21);
        Checks.due("19 behind a write", x.mark(3), true);
        Checks.due("with its value", x.get(3), 31);
        Checks.due("memory in order", x.byteAt(400), 5);
        Checks.due("a word", x.byteAt(401), 0);
    }

    private static void parallelFault() {
        PlainSteps x = ready();
        Checks.define(x, 1, 1, row(0, 32, 32, 1), row(16, 34, 33, 0), row(19, 0, 0, 2), row(18, 35, 32, 0));
        Checks.words(x, 200, 0x100);
        x.step(1);
        Checks.due("a fault", x.fault(0), 8);
        Checks.due("nothing written", x.get(1), 10);
        Checks.due("no mark", x.mark(2), false);
        Checks.due("no byte", x.byteAt(400), 0);
        Checks.due("but counted", x.counter(5), 2);
        Checks.due("and done", x.counter(8), 4);
    }

    private static void parallelPlace() {
        PlainSteps x = ready();
        Checks.define(x, 1, 1, row(0, 34, 34, 0), row(0, 0, 0, 1), row(17, 35, 0, 0), row(0, 33, 33, 0));
        Checks.words(x, 200, 0x100);
        x.step(1);
        Checks.due("jumped", x.get(0), 400);
        Checks.due("the place 2 more", x.get(1), 202);
        Checks.due("17 at once", x.counter(8), 3);
    }

    private static void parallelBack() {
        PlainSteps x = ready();
        Checks.define(x, 1, 1, row(22, 0, 0, 0), row(0, 0, 0, 1), row(0, 32, 32, 2));
        Checks.interrupted(x);
        Checks.words(x, 64, 0x100);
        x.step(1);
        Checks.due("back", x.get(0), 200);
        Checks.due("read as before", x.get(1), 66);
        Checks.due("level", x.counter(6), 0);
        Checks.due("none kept", x.counter(7), 0);
        Checks.due("written", x.get(2), 1);
    }

    private static void parallelBackAndWrites() {
        PlainSteps x = ready();
        Checks.define(x, 1, 1, row(0, 34, 34, 0), row(19, 0, 0, 0), row(22, 0, 0, 0));
        Checks.interrupted(x);
        Checks.words(x, 64, 0x100);
        x.step(1);
        Checks.due("what is written comes behind 22", x.get(0), 400);
        Checks.due("the mark too", x.mark(0), true);
        Checks.due("the level is so", x.counter(6), 0);
        PlainSteps y = ready();
        Checks.define(y, 1, 0, row(0, 34, 34, 0), row(19, 0, 0, 0), row(22, 0, 0, 0));
        Checks.interrupted(y);
        Checks.words(y, 64, 0x100);
        y.step(1);
        Checks.due("in order when not parallel", y.get(0), 200);
        Checks.due("without a mark", y.mark(0), false);
    }

    private static void parallelLevel() {
        PlainSteps x = ready();
        Checks.define(x, 1, 1, row(20, 0, 0, 0), row(22, 0, 0, 0), row(20, 0, 0, 0));
        Checks.interrupted(x);
        Checks.words(x, 64, 0x100);
        x.step(1);
        Checks.due("22 is at once, so the level is 0", x.fault(0), 5);
        Checks.due("all three done", x.counter(8), 3);
        Checks.due("the place of the instruction", x.fault(1), 64);
        Checks.due("kept anew", x.counter(7), 1);
    }

    private static void parallelBackClearsTheMark() {
        PlainSteps x = ready();
        Checks.define(x, 1, 0, row(19, 0, 0, 0));
        Checks.define(x, 2, 1, row(22, 0, 0, 0), row(0, 0, 0, 1));
        Checks.interrupted(x);
        Checks.words(x, 64, 0x100, 0x200);
        x.step(1);
        Checks.due("marked", x.mark(0), true);
        x.step(1);
        Checks.due("back without a mark", x.mark(0), false);
        Checks.due("read with the mark of before", x.mark(1), true);
    }

    /** What one instruction left must not reach the next. */
    private static void oneBehindAnother() {
        PlainSteps x = ready();
        Checks.define(x, 1, 1, row(0, 32, 32, 1), row(15, 34, 32, 0));
        Checks.define(x, 2, 1, row(0, 33, 33, 2), row(17, 35, 0, 0), row(0, 33, 33, 3));
        Checks.define(x, 3, 1, row(22, 0, 0, 0));
        Checks.interrupted(x);
        Checks.words(x, 64, 0x300);
        Checks.words(x, 200, 0x100, 0x200, 0x100, 0x200);
        x.step(2);
        Checks.due("no jump again", x.get(0), 202);
        x.set(1, 99);
        x.memory(400, 98);
        x.step(1);
        Checks.due("nothing is written again", x.get(1), 99);
        Checks.due("no byte either", x.byteAt(400), 98);
        x.step(1);
        Checks.due("17 ends its own instruction alone", x.get(1), 1);
        Checks.due("not the next", x.byteAt(400), 1);
    }

    private static void mostTransfers() {
        for (int how = 0; how < 8; how++) {
            PlainSteps x = ready();
            for (int i = 0; i < 199; i++) {
                x.transfer(1, 1, 32, 1);
            }
            x.transfer(16, 34, 33, 0);
            x.instruction(0, 0, how);
            x.step(1);
            Checks.due("200 transfers in one, " + how, x.get(1), how % 2 == 1 ? 11 : 209);
            Checks.due("the last one, too, " + how, x.byteAt(400), 5);
            Checks.due("all done, " + how, x.counter(8), 200);
        }
    }

    private static void restoringBytes() {
        PlainSteps x = ready();
        Checks.define(x, 1, 2, row(15, 34, 32, 0), row(0, 33, 33, 1), row(18, 35, 35, 0));
        Checks.define(x, 2, 2, row(15, 34, 33, 0), row(18, 35, 32, 0));
        x.memory(400, 200);
        x.memory(401, 201);
        Checks.words(x, 200, 0x100, 0x200);
        x.step(1);
        Checks.due("written", x.byteAt(400), 1);
        x.set(1, 60);
        x.step(1);
        Checks.due("the byte is as before", x.byteAt(400), 1);
        Checks.due("the next byte, too", x.byteAt(401), 201);
        Checks.due("what another instruction did stays", x.get(1), 60);
    }

    private static int[][] muchThenFault() {
        return new int[][] {row(0, 32, 32, 1), row(0, 33, 33, 1), row(19, 0, 0, 2), row(16, 34, 33, 0),
            row(15, 34, 32, 0), row(0, 34, 34, 0), row(19, 0, 0, 0), row(22, 0, 0, 0), row(21, 0, 0, 0),
            row(13, 34, 35, 3), row(18, 35, 32, 0)};
    }

    private static void restoringAll() {
        for (int how = 2; how < 8; how++) {
            if ((how & 2) == 0) {
                continue;
            }
            PlainSteps x = ready();
            x.register(8);
            Checks.define(x, 1, how, muchThenFault());
            Checks.define(x, 2, 0, row(22, 0, 0, 0));
            Checks.interrupted(x);
            Checks.words(x, 64, 0x100);
            Checks.words(x, 400, 0x4321);
            Checks.words(x, 32, 0x200);
            x.step(1);
            Checks.due("fault", x.fault(0), 8);
            Checks.due("register 1", x.get(1), 10);
            Checks.due("mark 2", x.mark(2), false);
            Checks.due("register 3", x.get(3), 30);
            Checks.due("mark 4", x.mark(4), true);
            Checks.due("low byte", x.byteAt(400), 0x21);
            Checks.due("high byte", x.byteAt(401), 0x43);
            Checks.due("both are kept", x.counter(7), 2);
            Checks.due("it does not halt", x.halted(), 0);
            Checks.due("written is counted", x.counter(5), 3);
            Checks.due("read is counted", x.counter(4), 1);
            Checks.due("transfers are counted", x.counter(8), 11);
            x.step(1);
            Checks.due("back at it", x.get(0), 64);
            Checks.due("at its level", x.counter(6), 6);
            Checks.words(x, 64, 0x200);
            x.step(1);
            Checks.due("what was kept is so still", x.get(0), 200);
            Checks.due("with its level", x.counter(6), 0);
        }
    }

    private static void restoringWithoutFault() {
        PlainSteps x = ready();
        Checks.define(x, 1, 2, row(0, 32, 32, 1), row(16, 34, 33, 0), row(19, 0, 0, 2), row(21, 0, 0, 0));
        Checks.words(x, 200, 0x100);
        x.step(1);
        Checks.due("register", x.get(1), 1);
        Checks.due("memory", x.byteAt(400), 5);
        Checks.due("mark", x.mark(2), true);
        Checks.due("halted", x.halted(), 1);
    }

    private static void restoringNot() {
        PlainSteps x = ready();
        Checks.define(x, 1, 0, muchThenFault());
        Checks.interrupted(x);
        Checks.words(x, 64, 0x100);
        x.step(1);
        Checks.due("register 1 stays", x.get(1), 5);
        Checks.due("mark 2 stays", x.mark(2), true);
        Checks.due("register 3 stays", x.get(3), 1);
        Checks.due("memory stays", x.byteAt(400), 1);
        Checks.due("one kept", x.counter(7), 1);
        Checks.due("the halt stays", x.halted(), 1);
        Checks.due("the fault's place", x.get(0), 32);
        Checks.due("without a mark", x.mark(0), false);
        Checks.due("its level", x.counter(6), 15);
    }

    private static void delayedJump() {
        PlainSteps x = ready();
        Checks.define(x, 1, 4, row(0, 34, 34, 0));
        Checks.define(x, 2, 0, row(0, 0, 0, 1));
        Checks.words(x, 200, 0x100, 0x200);
        Checks.words(x, 400, 0x200, 0x200);
        x.step(1);
        Checks.due("behind it", x.get(0), 202);
        x.step(1);
        Checks.due("then there", x.get(0), 400);
        Checks.due("what the next one reads", x.get(1), 204);
        x.step(1);
        Checks.due("once", x.get(0), 402);
        x.step(1);
        Checks.due("and no more", x.get(0), 404);
    }

    private static void delayedReads() {
        PlainSteps x = ready();
        Checks.define(x, 1, 4, row(0, 34, 34, 0), row(0, 0, 0, 1), row(1, 0, 33, 0), row(0, 0, 0, 2));
        Checks.define(x, 2, 0);
        Checks.words(x, 200, 0x100, 0x200);
        x.step(1);
        Checks.due("as it was written", x.get(1), 400);
        Checks.due("each time", x.get(2), 405);
        x.step(1);
        Checks.due("the last one counts", x.get(0), 405);
    }

    private static void delayedLost() {
        PlainSteps x = ready();
        Checks.define(x, 1, 4, row(0, 34, 34, 0));
        Checks.define(x, 2, 0, row(1, 0, 33, 0));
        Checks.define(x, 3, 0);
        Checks.define(x, 4, 0, row(22, 0, 0, 0));
        Checks.words(x, 200, 0x100, 0x200);
        x.step(2);
        Checks.due("the next one wrote the place", x.get(0), 209);
        x.set(0, 210);
        Checks.words(x, 210, 0x100, 0x300, 0x300);
        x.line(0, true);
        x.enable(0, 0);
        x.step(1);
        x.enable(0, 1);
        x.step(1);
        Checks.due("an interrupt", x.get(0), 64);
        Checks.words(x, 64, 0x300, 0x400);
        x.step(1);
        Checks.due("loses it", x.get(0), 66);
        x.line(0, false);
        x.step(1);
        Checks.due("the place that was kept", x.get(0), 212);
        x.step(1);
        Checks.due("lost for good", x.get(0), 214);
        Checks.words(x, 214, 0x100, 0xff00);
        Checks.words(x, 4, 0x300);
        x.step(2);
        Checks.due("a fault", x.get(0), 4);
        x.step(1);
        Checks.due("loses it, too", x.get(0), 6);
        Checks.define(x, 5, 4, row(0, 34, 34, 0), row(18, 35, 32, 0));
        Checks.words(x, 6, 0x500);
        Checks.words(x, 32, 0x300);
        x.step(2);
        Checks.due("a fault of its own as well", x.get(0), 34);
    }

    private static void delayedBehindDelayed() {
        PlainSteps x = ready();
        x.constant(500);
        Checks.define(x, 1, 4, row(0, 34, 34, 0));
        Checks.define(x, 2, 4, row(0, 36, 36, 0));
        Checks.define(x, 3, 4, row(0, 32, 32, 1));
        Checks.define(x, 4, 0);
        Checks.words(x, 200, 0x100, 0x200, 0x400);
        x.step(2);
        Checks.due("the second wrote the place: the first is lost", x.get(0), 204);
        x.step(1);
        Checks.due("the second comes", x.get(0), 500);
        x.set(0, 210);
        Checks.words(x, 210, 0x100, 0x300);
        x.step(2);
        Checks.due("a delayed one that writes no place", x.get(0), 400);
    }

    private static void delayedMarks() {
        PlainSteps x = ready();
        x.register(16);
        Checks.define(x, 1, 4, row(1, 4, 34, 0), row(0, 0, 0, 1));
        Checks.define(x, 2, 0, row(0, 0, 0, 2));
        Checks.words(x, 200, 0x100, 0x200);
        x.step(1);
        Checks.due("the mark at once", x.mark(0), true);
        Checks.due("and read so", x.mark(1), true);
        Checks.due("the place is behind it", x.get(0), 202);
        x.step(1);
        Checks.due("the next reads it, too", x.mark(2), true);
        Checks.due("there", x.get(0), 400);
        Checks.due("the mark stays", x.mark(0), true);
        Checks.define(x, 3, 4, row(0, 34, 34, 0));
        Checks.words(x, 400, 0x300);
        x.step(1);
        Checks.due("a place without a mark, at once", x.mark(0), false);
    }

    private static void delayedMarkAlone() {
        PlainSteps x = ready();
        Checks.define(x, 1, 4, row(19, 0, 0, 0));
        Checks.define(x, 2, 4, row(0, 34, 34, 0));
        Checks.define(x, 3, 0, row(19, 0, 0, 0));
        Checks.words(x, 200, 0x100, 0x200, 0x300);
        x.step(1);
        Checks.due("marked", x.mark(0), true);
        x.set(0, 202);
        x.step(2);
        Checks.due("a mark alone does not lose it", x.get(0), 400);
        Checks.due("and stays", x.mark(0), true);
        Checks.words(x, 400, 0x100, 0x300);
        x.step(2);
        Checks.due("nor is it a place to come", x.get(0), 404);
    }

    private static void delayedBack() {
        for (int how = 4; how < 8; how++) {
            PlainSteps x = ready();
            Checks.define(x, 1, how, row(22, 0, 0, 0), row(0, 0, 0, 1));
            Checks.define(x, 2, 0);
            Checks.interrupted(x);
            Checks.words(x, 64, 0x100, 0x200);
            x.step(1);
            Checks.due("behind it", x.get(0), 66);
            Checks.due("the level at once", x.counter(6), 0);
            Checks.due("the place reads", x.get(1), how % 2 == 1 ? 66 : 200);
            x.step(1);
            Checks.due("then back", x.get(0), 200);
        }
        PlainSteps x = ready();
        Checks.define(x, 1, 4, row(0, 34, 34, 0));
        Checks.define(x, 2, 0, row(22, 0, 0, 0));
        Checks.interrupted(x);
        Checks.words(x, 64, 0x100, 0x200);
        x.step(2);
        Checks.due("22 counts as written: the delayed one is lost", x.get(0), 200);
        Checks.words(x, 200, 0xfeff);
        Checks.define(x, 0xfe, 0);
        x.step(1);
        Checks.due("for good", x.get(0), 202);
    }

    private static void delayedHalt() {
        PlainSteps x = ready();
        Checks.define(x, 1, 4, row(0, 34, 34, 0), row(21, 0, 0, 0));
        Checks.words(x, 200, 0x100);
        x.step(1);
        Checks.due("halted behind it", x.get(0), 202);
        PlainSteps y = ready();
        Checks.define(y, 1, 4, row(0, 34, 34, 0));
        Checks.define(y, 2, 0, row(21, 0, 0, 0));
        Checks.words(y, 200, 0x100, 0x200);
        y.step(2);
        Checks.due("the delayed place came before the halt", y.get(0), 400);
        Checks.due("halted", y.halted(), 1);
    }

    private static void delayedParallel() {
        PlainSteps x = ready();
        Checks.define(x, 1, 5, row(0, 34, 34, 0), row(0, 0, 0, 1), row(0, 33, 33, 2));
        Checks.define(x, 2, 0);
        Checks.words(x, 200, 0x100, 0x200);
        x.step(1);
        Checks.due("behind it", x.get(0), 202);
        Checks.due("read as before", x.get(1), 202);
        Checks.due("others are written", x.get(2), 5);
        x.step(1);
        Checks.due("there", x.get(0), 400);
    }

    private static void setLosesDelayed() {
        PlainSteps x = ready();
        Checks.define(x, 1, 4, row(0, 34, 34, 0));
        Checks.define(x, 2, 0);
        Checks.words(x, 200, 0x100, 0x200, 0x200);
        x.step(1);
        x.set(1, 9);
        Checks.due("set the place to what it is", x.set(0, 202), 202);
        x.step(1);
        Checks.due("lost", x.get(0), 204);
        x.set(0, 200);
        x.step(1);
        x.set(1, 8);
        x.step(1);
        Checks.due("another register's set loses nothing", x.get(0), 400);
    }
}
