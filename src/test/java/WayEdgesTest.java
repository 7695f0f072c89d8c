/** The terms on parallel, restoring and delayed instructions (promise 6): a test for each sentence with an edge. */
public final class WayEdgesTest {
    public static void main(String[] args) {
        parallelRegisters();
        parallelMarks();
        parallelBytes();
        parallelWords();
        parallelPlaceTwoMore();
        parallelPlaceWhateverBackDoes();
        parallelRegistersInOrder();
        parallelMemoryInOrder();
        parallelMarksInOrder();
        parallelPlaceInOrder();
        parallelFaultAtOnce();
        parallelEndAtOnce();
        parallelHaltAtOnce();
        parallelBackAtOnce();
        parallelBackBeforeWrites();
        parallelBackBeforeMarks();
        parallelBackThenFault();
        parallelMost();
        restoringRegisters();
        restoringMarks();
        restoringBytes();
        restoringWords();
        restoringPlace();
        restoringLevelAndKept();
        restoringDoesNotHalt();
        restoringTheOldest();
        restoringOnlyItsOwn();
        restoringWithoutFault();
        restoringMost();
        notRestoringStays();
        notRestoringParallelWritesNothing();
        delayedPlace();
        delayedByBack();
        delayedLostByWriting();
        delayedLostByBack();
        delayedLostByDelayed();
        delayedNotLostByDelayed();
        delayedLostByFetchFault();
        delayedLostByTransferFault();
        delayedLostByItsOwnFault();
        delayedLostByInterrupt();
        delayedLostBySet();
        delayedReadsAsWritten();
        delayedMarkAtOnce();
        delayedMarkTakenAtOnce();
        delayedMarkStays();
        delayedPlaceBehindIt();
        delayedToTheSamePlace();
        delayedToAnOddPlace();
        delayedWithoutWriting();
        delayedOnce();
        Checks.finish();
    }

    private static int[] row(int op, int a, int b, int to) {
        return Checks.row(op, a, b, to);
    }

    private static boolean isParallel(int how) {
        return (how & 1) != 0;
    }

    private static boolean isRestoring(int how) {
        return (how & 2) != 0;
    }

    private static boolean isDelayed(int how) {
        return (how & 4) != 0;
    }

    private static void parallelRegisters() {
        Checks.sentence("PARALLEL: all that is read is as before the instruction: registers");
        for (int how = 0; how < 8; how++) {
            PlainSteps x = Checks.run(Checks.ready(), how, row(0, 2, 2, 1), row(0, 1, 1, 2), row(1, 1, 2, 3));
            Checks.due("the first, " + how, x.get(1), 20);
            Checks.due("the second, " + how, x.get(2), isParallel(how) ? 10 : 20);
            Checks.due("their sum, " + how, x.get(3), isParallel(how) ? 30 : 40);
        }
    }

    private static void parallelMarks() {
        Checks.sentence("PARALLEL: all that is read is as before the instruction: marks");
        for (int how = 0; how < 8; how++) {
            PlainSteps x = Checks.ready();
            x.register(8);
            Checks.run(x, how, row(19, 0, 0, 1), row(0, 1, 1, 2), row(0, 32, 32, 4), row(0, 4, 4, 3));
            Checks.due("a mark that is put, " + how, x.mark(2), !isParallel(how));
            Checks.due("a mark that is taken, " + how, x.mark(3), isParallel(how));
            Checks.due("put, " + how, x.mark(1), true);
            Checks.due("taken, " + how, x.mark(4), false);
        }
    }

    private static void parallelBytes() {
        Checks.sentence("PARALLEL: all that is read (memory too) is as before the instruction: bytes");
        for (int how = 0; how < 8; how++) {
            PlainSteps x = Checks.ready();
            x.memory(400, 77);
            Checks.run(x, how, row(15, 34, 33, 0), row(13, 34, 35, 1));
            Checks.due("read, " + how, x.get(1), isParallel(how) ? 77 : 5);
            Checks.due("written, " + how, x.byteAt(400), 5);
        }
    }

    private static void parallelWords() {
        Checks.sentence("PARALLEL: all that is read (memory too) is as before the instruction: words");
        for (int how = 0; how < 8; how++) {
            PlainSteps x = Checks.ready();
            x.set(2, 0x1234);
            Checks.words(x, 400, 0x5678);
            Checks.run(x, how, row(16, 34, 2, 0), row(14, 34, 35, 1), row(13, 34, 32, 3));
            Checks.due("read, " + how, x.get(1), isParallel(how) ? 0x5678 : 0x1234);
            Checks.due("its high byte, " + how, x.get(3), isParallel(how) ? 0x56 : 0x12);
            Checks.due("written low, " + how, x.byteAt(400), 0x34);
            Checks.due("written high, " + how, x.byteAt(401), 0x12);
        }
    }

    private static void parallelPlaceTwoMore() {
        Checks.sentence("PARALLEL: (the place 2 more)");
        for (int how = 0; how < 8; how++) {
            PlainSteps x = Checks.run(Checks.ready(), how, row(0, 0, 0, 1), row(0, 34, 34, 0), row(0, 0, 0, 2));
            Checks.due("before it is written, " + how, x.get(1), 202);
            Checks.due("behind that, " + how, x.get(2), isParallel(how) ? 202 : 400);
        }
    }

    private static void parallelPlaceWhateverBackDoes() {
        Checks.sentence("PARALLEL: (the place 2 more, whatever 22 does)");
        for (int how = 0; how < 8; how++) {
            PlainSteps x = Checks.ready();
            Checks.interrupted(x);
            Checks.run(x, how, row(19, 0, 0, 0), row(22, 0, 0, 0), row(0, 0, 0, 1), row(1, 0, 33, 2));
            Checks.due("the place, " + how, x.get(1), isParallel(how) ? 66 : 200);
            Checks.due("a sum with it, " + how, x.get(2), isParallel(how) ? 71 : 205);
            Checks.due("it has no mark, " + how, x.mark(1), false);
        }
    }

    private static void parallelRegistersInOrder() {
        Checks.sentence("PARALLEL: what is written is written behind its last transfer, in order: registers");
        for (int how = 0; how < 8; how++) {
            PlainSteps x = Checks.run(Checks.ready(), how, row(0, 32, 32, 1), row(0, 33, 33, 1), row(0, 34, 34, 2),
                    row(0, 32, 32, 2));
            Checks.due("the last one, " + how, x.get(1), 5);
            Checks.due("the other's last one, " + how, x.get(2), 1);
        }
    }

    private static void parallelMemoryInOrder() {
        Checks.sentence("PARALLEL: what is written is written behind its last transfer, in order: memory");
        for (int how = 0; how < 8; how++) {
            PlainSteps x = Checks.ready();
            x.constant(401);
            x.constant(402);
            x.set(1, 0x1122);
            x.set(2, 0x3344);
            Checks.run(x, how, row(16, 34, 1, 0), row(15, 36, 33, 0), row(15, 37, 33, 0), row(16, 37, 2, 0));
            Checks.due("a byte behind a word, low, " + how, x.byteAt(400), 0x22);
            Checks.due("a byte behind a word, high, " + how, x.byteAt(401), 5);
            Checks.due("a word behind a byte, low, " + how, x.byteAt(402), 0x44);
            Checks.due("a word behind a byte, high, " + how, x.byteAt(403), 0x33);
        }
    }

    private static void parallelMarksInOrder() {
        Checks.sentence("PARALLEL: in order, marks of 19 too");
        for (int how = 0; how < 8; how++) {
            PlainSteps x = Checks.run(Checks.ready(), how, row(19, 0, 0, 1), row(0, 33, 33, 1), row(0, 33, 33, 2),
                    row(19, 0, 0, 2));
            Checks.due("written behind 19, " + how, x.mark(1), false);
            Checks.due("its value, " + how, x.get(1), 5);
            Checks.due("19 behind what is written, " + how, x.mark(2), true);
            Checks.due("its value is the written one, " + how, x.get(2), 5);
        }
    }

    private static void parallelPlaceInOrder() {
        Checks.sentence("PARALLEL: what is written is written behind its last transfer, in order: the place");
        for (int how = 0; how < 4; how++) {
            PlainSteps x = Checks.run(Checks.ready(), how, row(0, 33, 33, 0), row(0, 34, 34, 0), row(19, 0, 0, 0));
            Checks.due("the last one, " + how, x.get(0), 400);
            Checks.due("its mark, " + how, x.mark(0), true);
        }
    }

    private static void parallelFaultAtOnce() {
        Checks.sentence("PARALLEL: faults at once");
        for (int how = 0; how < 8; how++) {
            PlainSteps x = Checks.run(Checks.ready(), how, row(0, 32, 32, 1), row(18, 35, 32, 0), row(0, 32, 32, 2),
                    row(15, 34, 32, 0));
            Checks.due("told, " + how, x.fault(0), 8);
            Checks.due("two were done, " + how, x.counter(8), 2);
            Checks.due("not what is behind it, " + how, x.get(2), 20);
            Checks.due("nor counted, " + how, x.counter(5), 0);
            Checks.due("what was before it, " + how, x.get(1), how % 4 == 0 ? 1 : 10);
        }
    }

    private static void parallelEndAtOnce() {
        Checks.sentence("PARALLEL: 17 at once");
        for (int how = 0; how < 8; how++) {
            PlainSteps x = Checks.ready();
            Checks.run(x, how, row(0, 35, 35, 1), row(17, 1, 1, 0), row(0, 33, 33, 2), row(15, 34, 33, 0),
                    row(17, 35, 35, 0), row(0, 33, 33, 3), row(18, 35, 32, 0));
            Checks.due("it looks at what was before, " + how, x.get(2), isParallel(how) ? 5 : 20);
            Checks.due("what stands in front of it is written, " + how, x.byteAt(400), isParallel(how) ? 5 : 0);
            Checks.due("what stands behind it is not, " + how, x.get(3), 30);
            Checks.due("nor makes it a fault, " + how, x.counter(2), 0);
            Checks.due("how many were done, " + how, x.counter(8), isParallel(how) ? 5 : 2);
        }
    }

    private static void parallelHaltAtOnce() {
        Checks.sentence("PARALLEL: 21 at once");
        for (int how = 0; how < 8; how++) {
            PlainSteps x = Checks.run(Checks.ready(), how, row(21, 0, 0, 0), row(4, 32, 35, 1));
            Checks.due("a fault behind it, " + how, x.fault(0), 4);
            Checks.due("halted, " + how, x.halted(), isRestoring(how) ? 0 : 1);
            PlainSteps y = Checks.run(Checks.ready(), how, row(4, 32, 35, 1), row(21, 0, 0, 0));
            Checks.due("a fault in front of it, " + how, y.halted(), 0);
            PlainSteps z = Checks.run(Checks.ready(), how, row(21, 0, 0, 0), row(17, 35, 35, 0));
            Checks.due("17 behind it, " + how, z.halted(), 1);
        }
    }

    private static void parallelBackAtOnce() {
        Checks.sentence("PARALLEL: 22 at once");
        for (int how = 0; how < 8; how++) {
            PlainSteps x = Checks.ready();
            Checks.interrupted(x);
            Checks.run(x, how, row(20, 0, 0, 0), row(22, 0, 0, 0), row(20, 0, 0, 0));
            Checks.due("20 behind it finds level 0, " + how, x.fault(0), 5);
            Checks.due("three were done, " + how, x.counter(8), 3);
            PlainSteps y = Checks.ready();
            Checks.interrupted(y);
            y.set(0, 301);
            y.step(1);
            Checks.run(y, how, row(22, 0, 0, 0), row(22, 0, 0, 0));
            Checks.due("two of them take two, " + how, y.counter(7), 0);
            Checks.due("the first one's level, " + how, y.counter(6), 0);
            Checks.due("the first one's place, " + how, y.get(0), isDelayed(how) ? 10 : 200);
        }
    }

    private static void parallelBackBeforeWrites() {
        Checks.sentence("PARALLEL: with 22 the place and level are so before what is written");
        for (int how = 0; how < 4; how++) {
            PlainSteps x = Checks.ready();
            Checks.interrupted(x);
            Checks.run(x, how, row(0, 34, 34, 0), row(22, 0, 0, 0));
            Checks.due("22 behind a writing of the place, " + how, x.get(0), isParallel(how) ? 400 : 200);
            Checks.due("the level, " + how, x.counter(6), 0);
            PlainSteps y = Checks.ready();
            Checks.interrupted(y);
            Checks.run(y, how, row(22, 0, 0, 0), row(0, 34, 34, 0));
            Checks.due("a writing of the place behind 22, " + how, y.get(0), 400);
            PlainSteps z = Checks.ready();
            Checks.interrupted(z);
            Checks.run(z, how, row(0, 32, 32, 1), row(22, 0, 0, 0), row(0, 33, 33, 2));
            Checks.due("other registers, " + how, z.get(1) + z.get(2), 6);
            Checks.due("and the place, " + how, z.get(0), 200);
        }
    }

    private static void parallelBackBeforeMarks() {
        Checks.sentence("PARALLEL: with 22 the place is so (without a mark) before marks of 19");
        for (int how = 0; how < 4; how++) {
            PlainSteps x = Checks.ready();
            Checks.interrupted(x);
            Checks.run(x, how, row(19, 0, 0, 0), row(22, 0, 0, 0));
            Checks.due("22 behind 19, " + how, x.mark(0), isParallel(how));
            Checks.due("the place, " + how, x.get(0), 200);
            PlainSteps y = Checks.ready();
            Checks.interrupted(y);
            Checks.run(y, how, row(22, 0, 0, 0), row(19, 0, 0, 0));
            Checks.due("19 behind 22, " + how, y.mark(0), true);
        }
    }

    private static void parallelBackThenFault() {
        Checks.sentence("PARALLEL: 22 at once; without RESTORING, what was done stays when a fault comes");
        for (int how = 0; how < 8; how++) {
            PlainSteps x = Checks.ready();
            Checks.interrupted(x);
            Checks.run(x, how, row(22, 0, 0, 0), row(18, 35, 32, 0));
            Checks.due("kept then, " + how, x.counter(7), isRestoring(how) ? 2 : 1);
            Checks.define(x, 2, 0, row(22, 0, 0, 0));
            Checks.words(x, 32, 0x0200);
            x.step(1);
            Checks.due("the place of the instruction was kept, " + how, x.get(0), 64);
            Checks.due("with the level of then, " + how, x.counter(6), isRestoring(how) ? 6 : 0);
        }
    }

    private static void parallelMost() {
        Checks.sentence("PARALLEL: what is written, in order: 200 transfers");
        PlainSteps x = Checks.ready();
        for (int i = 0; i < 198; i++) {
            x.transfer(1, 1, 32, 1);
        }
        x.transfer(0, 34, 34, 2);
        x.transfer(15, 34, 33, 0);
        x.instruction(0, 0, 1);
        x.step(1);
        Checks.due("each read what was before", x.get(1), 11);
        Checks.due("the last register", x.get(2), 400);
        Checks.due("the last byte", x.byteAt(400), 5);
    }

    private static void restoringRegisters() {
        Checks.sentence("RESTORING: a fault in it leaves registers as before it");
        for (int how = 0; how < 8; how++) {
            PlainSteps x = Checks.ready();
            x.register(64);
            x.set(4, -9);
            Checks.run(x, how, row(0, 32, 32, 1), row(3, 4, 4, 4), row(18, 35, 32, 0));
            Checks.due("a register, " + how, x.get(1), how % 4 == 0 ? 1 : 10);
            Checks.due("a wide one, " + how, x.get(4), how % 4 == 0 ? 81 : -9);
            Checks.due("the fault, " + how, x.fault(0), 8);
        }
    }

    private static void restoringMarks() {
        Checks.sentence("RESTORING: a fault in it leaves marks as before it");
        for (int how = 0; how < 8; how++) {
            PlainSteps x = Checks.ready();
            x.register(8);
            x.register(8);
            Checks.run(x, how, row(19, 0, 0, 1), row(0, 32, 32, 4), row(0, 5, 5, 2), row(18, 35, 32, 0));
            Checks.due("put by 19, " + how, x.mark(1), how % 4 == 0);
            Checks.due("taken by a writing, " + how, x.mark(4), how % 4 != 0);
            Checks.due("put by a writing, " + how, x.mark(2), how % 4 == 0);
            Checks.due("one that was not touched, " + how, x.mark(5), true);
        }
    }

    private static void restoringBytes() {
        Checks.sentence("RESTORING: a fault in it leaves memory as before it: bytes");
        for (int how = 0; how < 8; how++) {
            PlainSteps x = Checks.ready();
            x.memory(399, 61);
            x.memory(400, 255);
            x.memory(401, 63);
            Checks.run(x, how, row(15, 34, 33, 0), row(18, 35, 32, 0));
            Checks.due("the byte, " + how, x.byteAt(400), how % 4 == 0 ? 5 : 255);
            Checks.due("the one before it, " + how, x.byteAt(399), 61);
            Checks.due("the one behind it, " + how, x.byteAt(401), 63);
        }
    }

    private static void restoringWords() {
        Checks.sentence("RESTORING: a fault in it leaves memory as before it: words");
        for (int how = 0; how < 8; how++) {
            PlainSteps x = Checks.ready();
            x.constant(4094);
            x.set(1, 0x1234);
            Checks.words(x, 4094, 0xfedc);
            Checks.run(x, how, row(16, 36, 1, 0), row(18, 35, 32, 0));
            Checks.due("the low byte, " + how, x.byteAt(4094), how % 4 == 0 ? 0x34 : 0xdc);
            Checks.due("the high byte, " + how, x.byteAt(4095), how % 4 == 0 ? 0x12 : 0xfe);
        }
    }

    private static void restoringPlace() {
        Checks.sentence("RESTORING: a fault in it leaves place as before it");
        for (int how = 0; how < 8; how++) {
            PlainSteps x = Checks.ready();
            Checks.run(x, how, row(0, 34, 34, 0), row(19, 0, 0, 0), row(18, 35, 32, 0));
            Checks.due("the fault's place, " + how, x.get(0), 32);
            Checks.due("without a mark, " + how, x.mark(0), false);
            Checks.define(x, 2, 0, row(22, 0, 0, 0));
            Checks.words(x, 32, 0x0200);
            x.step(1);
            Checks.due("the instruction's place is kept, " + how, x.get(0), 200);
        }
        PlainSteps y = Checks.ready();
        Checks.keep(y, 8);
        y.set(0, 200);
        Checks.run(y, 2, row(0, 34, 34, 0), row(19, 0, 0, 0), row(18, 35, 32, 0));
        Checks.due("when 8 are kept", y.get(0), 200);
        Checks.due("and its mark", y.mark(0), false);
    }

    private static void restoringLevelAndKept() {
        Checks.sentence("RESTORING: a fault in it leaves level and what is kept as before it");
        for (int how = 2; how < 8; how++) {
            if (!isRestoring(how)) {
                continue;
            }
            PlainSteps x = Checks.ready();
            Checks.interrupted(x);
            x.set(0, 301);
            x.step(1);
            x.set(0, 100);
            Checks.run(x, how, row(22, 0, 0, 0), row(22, 0, 0, 0), row(22, 0, 0, 0));
            Checks.due("none was kept for the third, " + how, x.fault(0), 6);
            Checks.due("three are kept, " + how, x.counter(7), 3);
            Checks.define(x, 2, 0, row(22, 0, 0, 0));
            Checks.words(x, 24, 0x0200);
            x.step(1);
            Checks.due("the latest place, " + how, x.get(0), 100);
            Checks.due("the latest level, " + how, x.counter(6), 15);
            x.set(0, 24);
            x.step(1);
            Checks.due("the middle place, " + how, x.get(0), 301);
            Checks.due("the middle level, " + how, x.counter(6), 6);
            x.set(0, 24);
            x.step(1);
            Checks.due("the first place, " + how, x.get(0), 200);
            Checks.due("the first level, " + how, x.counter(6), 0);
        }
    }

    private static void restoringDoesNotHalt() {
        Checks.sentence("RESTORING: and it does not halt");
        for (int how = 0; how < 8; how++) {
            PlainSteps x = Checks.ready();
            Checks.define(x, 1, how, row(21, 0, 0, 0), row(18, 35, 32, 0));
            Checks.define(x, 2, 0, row(0, 33, 33, 1));
            Checks.words(x, 200, 0x0100);
            Checks.words(x, 32, 0x0200);
            Checks.due("steps, " + how, x.step(2), isRestoring(how) ? 2 : 1);
            Checks.due("halted, " + how, x.halted(), isRestoring(how) ? 0 : 1);
            Checks.due("the next one, " + how, x.get(1), isRestoring(how) ? 5 : 10);
        }
    }

    private static void restoringTheOldest() {
        Checks.sentence("RESTORING: as before it, also what was written more than once");
        PlainSteps x = Checks.ready();
        x.memory(400, 91);
        x.memory(401, 92);
        Checks.run(x, 2, row(0, 32, 32, 1), row(19, 0, 0, 1), row(0, 33, 33, 1), row(15, 34, 33, 0), row(16, 34, 1, 0),
                row(15, 34, 32, 0), row(18, 35, 32, 0));
        Checks.due("the register", x.get(1), 10);
        Checks.due("its mark", x.mark(1), false);
        Checks.due("the low byte", x.byteAt(400), 91);
        Checks.due("the high byte", x.byteAt(401), 92);
    }

    private static void restoringOnlyItsOwn() {
        Checks.sentence("RESTORING: as before it, not as before the instruction in front of it");
        for (int how = 0; how < 8; how++) {
            PlainSteps x = Checks.ready();
            Checks.define(x, 1, how, row(0, 33, 33, 1), row(15, 34, 33, 0), row(19, 0, 0, 2));
            Checks.define(x, 2, 2, row(0, 32, 32, 3), row(18, 35, 32, 0));
            Checks.words(x, 200, 0x0100, 0x0200);
            x.step(2);
            Checks.due("its register, " + how, x.get(1), 5);
            Checks.due("its byte, " + how, x.byteAt(400), 5);
            Checks.due("its mark, " + how, x.mark(2), true);
            Checks.due("what is restored, " + how, x.get(3), 30);
        }
    }

    private static void restoringWithoutFault() {
        Checks.sentence("RESTORING: without a fault nothing is restored");
        for (int how = 2; how < 4; how++) {
            PlainSteps x = Checks.ready();
            Checks.interrupted(x);
            Checks.run(x, how, row(0, 33, 33, 1), row(16, 34, 33, 0), row(19, 0, 0, 2), row(22, 0, 0, 0),
                    row(18, 35, 35, 0));
            Checks.due("a register, " + how, x.get(1), 5);
            Checks.due("a byte, " + how, x.byteAt(400), 5);
            Checks.due("a mark, " + how, x.mark(2), true);
            Checks.due("the place, " + how, x.get(0), 200);
            Checks.due("the level, " + how, x.counter(6), 0);
            Checks.due("what is kept, " + how, x.counter(7), 0);
        }
    }

    private static void restoringMost() {
        Checks.sentence("RESTORING: as before it, of 200 transfers");
        PlainSteps x = Checks.ready();
        x.transfer(15, 34, 33, 0);
        for (int i = 0; i < 198; i++) {
            x.transfer(1, 1, 32, 1);
        }
        x.transfer(18, 35, 32, 0);
        x.instruction(0, 0, 2);
        x.step(1);
        Checks.due("all were done", x.counter(8), 200);
        Checks.due("the register", x.get(1), 10);
        Checks.due("the byte of the first one", x.byteAt(400), 0);
    }

    private static void notRestoringStays() {
        Checks.sentence("(without: what was done stays)");
        for (int how = 0; how < 8; how += 4) {
            PlainSteps x = Checks.ready();
            Checks.interrupted(x);
            Checks.run(x, how, row(0, 33, 33, 1), row(19, 0, 0, 2), row(16, 34, 33, 0), row(22, 0, 0, 0),
                    row(21, 0, 0, 0), row(18, 35, 32, 0), row(0, 33, 33, 3));
            Checks.due("a register, " + how, x.get(1), 5);
            Checks.due("a mark, " + how, x.mark(2), true);
            Checks.due("memory, " + how, x.byteAt(400), 5);
            Checks.due("what is kept, " + how, x.counter(7), 1);
            Checks.due("the halt, " + how, x.halted(), 1);
            Checks.due("not what is behind the fault, " + how, x.get(3), 30);
        }
    }

    private static void notRestoringParallelWritesNothing() {
        Checks.sentence("(of a parallel one nothing was written yet)");
        for (int how = 1; how < 8; how += 2) {
            PlainSteps x = Checks.ready();
            x.memory(400, 91);
            Checks.run(x, how, row(0, 33, 33, 1), row(19, 0, 0, 2), row(15, 34, 33, 0), row(0, 34, 34, 0),
                    row(18, 35, 32, 0));
            Checks.due("a register, " + how, x.get(1), 10);
            Checks.due("a mark, " + how, x.mark(2), false);
            Checks.due("memory, " + how, x.byteAt(400), 91);
            Checks.due("the place is the fault's, " + how, x.get(0), 32);
            Checks.define(x, 2, 1, row(0, 32, 32, 3));
            Checks.words(x, 32, 0x0200);
            x.step(1);
            Checks.due("nor is it written by the next one, " + how, x.get(1), 10);
            Checks.due("which writes its own, " + how, x.get(3), 1);
        }
    }

    /** A delayed jump to 400 at 200, and behind it one instruction of these rows, at 202. */
    private static PlainSteps afterJump(int how, int[]... rows) {
        PlainSteps x = Checks.ready();
        Checks.define(x, 1, 4, row(0, 34, 34, 0));
        Checks.define(x, 2, how, rows);
        Checks.define(x, 3, 0);
        Checks.words(x, 200, 0x0100, 0x0200, 0x0300);
        Checks.words(x, 400, 0x0300, 0x0300);
        return x;
    }

    private static void delayedPlace() {
        Checks.sentence("DELAYED: a place that it writes comes into effect behind the instruction that follows");
        for (int how = 4; how < 8; how++) {
            PlainSteps x = Checks.ready();
            Checks.define(x, 1, how, row(0, 34, 34, 0));
            Checks.define(x, 2, 0, row(1, 1, 33, 1));
            Checks.words(x, 200, 0x0100, 0x0200, 0x0200);
            Checks.words(x, 400, 0x0200);
            x.step(1);
            Checks.due("not yet, " + how, x.get(0), 202);
            x.step(1);
            Checks.due("behind the next, " + how, x.get(0), 400);
            Checks.due("which is done, " + how, x.get(1), 15);
            x.step(1);
            Checks.due("and goes on there, " + how, x.get(0), 402);
        }
        for (int how = 0; how < 4; how++) {
            PlainSteps y = Checks.run(Checks.ready(), how, row(0, 34, 34, 0));
            Checks.due("at once when not delayed, " + how, y.get(0), 400);
        }
    }

    private static void delayedByBack() {
        Checks.sentence("DELAYED: (by 22, too; the level is so at once)");
        for (int how = 4; how < 8; how++) {
            PlainSteps x = Checks.ready();
            Checks.interrupted(x);
            Checks.define(x, 1, how, row(22, 0, 0, 0));
            Checks.define(x, 2, 0);
            Checks.words(x, 64, 0x0100, 0x0200);
            x.step(1);
            Checks.due("the place is behind it, " + how, x.get(0), 66);
            Checks.due("the level, " + how, x.counter(6), 0);
            Checks.due("what is kept, " + how, x.counter(7), 0);
            x.step(1);
            Checks.due("the place that was kept, " + how, x.get(0), 200);
        }
    }

    private static void delayedLostByWriting() {
        Checks.sentence("DELAYED: (unless that writes the place itself: then it is lost)");
        for (int how = 0; how < 4; how++) {
            PlainSteps x = afterJump(how, row(1, 0, 32, 0), row(1, 0, 32, 0));
            Checks.words(x, 206, 0x0300);
            x.step(2);
            Checks.due("its own place, " + how, x.get(0), isParallel(how) ? 205 : 206);
        }
        PlainSteps y = afterJump(0, row(0, 0, 0, 0));
        y.step(2);
        Checks.due("also with the place that it is", y.get(0), 204);
        y.step(1);
        Checks.due("lost for good", y.get(0), 206);
        PlainSteps z = afterJump(0, row(17, 35, 35, 0), row(0, 0, 0, 0));
        z.step(2);
        Checks.due("a writing behind 17 is none", z.get(0), 400);
        PlainSteps w = afterJump(0, row(0, 0, 0, 1), row(15, 35, 32, 0));
        w.step(2);
        Checks.due("a reading is none", w.get(0), 400);
    }

    private static void delayedLostByBack() {
        Checks.sentence("22 (it counts as written by the instruction)");
        for (int how = 0; how < 8; how++) {
            PlainSteps x = Checks.ready();
            Checks.define(x, 1, 4, row(0, 34, 34, 0));
            Checks.define(x, 2, how, row(22, 0, 0, 0));
            Checks.define(x, 3, 0);
            Checks.interrupted(x);
            Checks.words(x, 64, 0x0100, 0x0200, 0x0300);
            Checks.words(x, 200, 0x0300);
            x.step(2);
            Checks.due("the delayed one is lost, " + how, x.get(0), isDelayed(how) ? 68 : 200);
            x.step(1);
            Checks.due("for good, " + how, x.get(0), isDelayed(how) ? 200 : 202);
        }
    }

    private static void delayedLostByDelayed() {
        Checks.sentence("DELAYED: (unless that writes the place itself): a delayed one");
        PlainSteps x = afterJump(4, row(0, 33, 33, 0), row(1, 0, 34, 0));
        x.step(2);
        Checks.due("neither has come", x.get(0), 204);
        x.step(1);
        Checks.due("the second comes", x.get(0), 405);
        Checks.words(x, 404, 0x0300);
        x.set(0, 404);
        x.step(1);
        Checks.due("the first is lost", x.get(0), 406);
    }

    private static void delayedNotLostByDelayed() {
        Checks.sentence("DELAYED: the place that was written comes behind the next one, though that is delayed, too");
        for (int how = 0; how < 8; how++) {
            PlainSteps x = afterJump(how, row(0, 32, 32, 1));
            x.step(2);
            Checks.due("it comes, " + how, x.get(0), 400);
            x.step(1);
            Checks.due("once, " + how, x.get(0), 402);
        }
    }

    private static void delayedLostByFetchFault() {
        Checks.sentence("DELAYED: (or there is a fault before it has: then it is lost): of the fetch");
        PlainSteps x = afterJump(0);
        Checks.words(x, 202, 0xff00);
        Checks.words(x, 4, 0x0300);
        x.step(2);
        Checks.due("no instruction", x.get(0), 4);
        x.step(1);
        Checks.due("lost", x.get(0), 6);
        PlainSteps y = Checks.ready();
        Checks.define(y, 1, 4, row(0, 34, 34, 0));
        Checks.define(y, 3, 0);
        Checks.words(y, 4094, 0x0100);
        Checks.words(y, 8, 0x0300);
        y.set(0, 4094);
        y.step(1);
        Checks.due("behind memory", y.get(0), 4096);
        y.step(1);
        Checks.due("memory ends", y.get(0), 8);
        Checks.due("told there", y.fault(1), 4096);
        y.step(1);
        Checks.due("lost", y.get(0), 10);
    }

    private static void delayedLostByTransferFault() {
        Checks.sentence("DELAYED: (or there is a fault before it has: then it is lost): of a transfer");
        for (int how = 0; how < 8; how++) {
            PlainSteps x = afterJump(how, row(0, 32, 32, 1), row(18, 35, 32, 0));
            Checks.words(x, 32, 0x0300);
            x.step(2);
            Checks.due("the fault, " + how, x.get(0), 32);
            x.step(1);
            Checks.due("lost, " + how, x.get(0), 34);
            Checks.define(x, 4, 0, row(22, 0, 0, 0));
            Checks.words(x, 34, 0x0400);
            x.step(1);
            Checks.due("back at the instruction, " + how, x.get(0), 202);
            Checks.words(x, 202, 0x0300);
            x.step(1);
            Checks.due("lost for good, " + how, x.get(0), 204);
        }
    }

    private static void delayedLostByItsOwnFault() {
        Checks.sentence("DELAYED: (or there is a fault before it has: then it is lost): of its own");
        for (int how = 4; how < 8; how++) {
            PlainSteps x = Checks.ready();
            Checks.define(x, 3, 0);
            Checks.words(x, 32, 0x0300, 0x0300);
            Checks.run(x, how, row(0, 34, 34, 0), row(18, 35, 32, 0));
            Checks.due("the fault, " + how, x.get(0), 32);
            x.step(1);
            Checks.due("lost, " + how, x.get(0), 34);
            x.step(1);
            Checks.due("for good, " + how, x.get(0), 36);
        }
    }

    private static void delayedLostByInterrupt() {
        Checks.sentence("DELAYED: (or an interrupt before it has: then it is lost)");
        PlainSteps x = afterJump(0, row(0, 32, 32, 1));
        x.step(1);
        Checks.interrupted(x);
        Checks.due("the interrupt", x.get(0), 64);
        Checks.define(x, 4, 0, row(22, 0, 0, 0));
        Checks.words(x, 64, 0x0300, 0x0400);
        x.step(1);
        Checks.due("it does not come there", x.get(0), 66);
        x.step(1);
        Checks.due("the place behind the delayed one was kept", x.get(0), 202);
        x.step(1);
        Checks.due("nor does it come here", x.get(0), 204);
    }

    private static void delayedLostBySet() {
        Checks.sentence("10: (A delayed place that waits is lost when the place is set.)");
        PlainSteps x = afterJump(0, row(0, 32, 32, 1));
        x.step(1);
        Checks.due("set to what it is", x.set(0, 202), 202);
        x.step(1);
        Checks.due("lost", x.get(0), 204);
        PlainSteps y = afterJump(0, row(0, 32, 32, 1));
        y.step(1);
        y.set(1, 400);
        y.memory(300, 4);
        y.line(1, false);
        y.enable(1, 3);
        Checks.dueThrow("a refused set", IndexOutOfBoundsException.class, () -> y.set(4, 0));
        y.step(1);
        Checks.due("other calls lose nothing", y.get(0), 400);
    }

    private static void delayedReadsAsWritten() {
        Checks.sentence("DELAYED: in the instruction itself the place reads as it was written");
        PlainSteps x = Checks.run(Checks.ready(), 4, row(0, 0, 0, 1), row(0, 34, 34, 0), row(0, 0, 0, 2),
                row(1, 0, 33, 0), row(0, 0, 0, 3));
        Checks.due("before", x.get(1), 202);
        Checks.due("then", x.get(2), 400);
        Checks.due("and then", x.get(3), 405);
        Checks.due("the place", x.get(0), 202);
        PlainSteps y = Checks.ready();
        Checks.interrupted(y);
        Checks.run(y, 4, row(22, 0, 0, 0), row(0, 0, 0, 1));
        Checks.due("by 22", y.get(1), 200);
        PlainSteps z = Checks.run(Checks.ready(), 5, row(0, 34, 34, 0), row(0, 0, 0, 1));
        Checks.due("a parallel one reads what was before", z.get(1), 202);
    }

    private static void delayedMarkAtOnce() {
        Checks.sentence("DELAYED: and its mark is there at once");
        for (int how = 4; how < 8; how++) {
            PlainSteps x = Checks.ready();
            x.register(16);
            Checks.run(x, how, row(1, 4, 34, 0), row(0, 0, 0, 1));
            Checks.due("behind it, " + how, x.mark(0), true);
            Checks.due("in it, " + how, x.mark(1), !isParallel(how));
            Checks.due("the place, " + how, x.get(0), 202);
        }
    }

    private static void delayedMarkTakenAtOnce() {
        Checks.sentence("DELAYED: and its mark is there at once: a place without one takes it away");
        for (int how = 4; how < 8; how++) {
            PlainSteps x = Checks.ready();
            Checks.define(x, 2, 0, row(19, 0, 0, 0));
            Checks.words(x, 200, 0x0200);
            x.step(1);
            Checks.due("a mark, " + how, x.mark(0), true);
            Checks.run(x, how, row(0, 34, 34, 0));
            Checks.due("none, " + how, x.mark(0), false);
        }
    }

    private static void delayedMarkStays() {
        Checks.sentence("DELAYED: its mark stays");
        PlainSteps x = Checks.ready();
        x.register(16);
        Checks.define(x, 1, 4, row(1, 4, 34, 0));
        Checks.define(x, 2, 0, row(0, 0, 0, 1));
        Checks.words(x, 200, 0x0100, 0x0200);
        Checks.words(x, 400, 0x0200);
        x.step(2);
        Checks.due("when it comes", x.get(0), 400);
        Checks.due("its mark", x.mark(0), true);
        Checks.due("read by the next one", x.mark(1), true);
        x.step(1);
        Checks.due("and goes on", x.mark(0), true);
        PlainSteps y = afterJump(0, row(19, 0, 0, 0));
        y.step(2);
        Checks.due("19 of the next one", y.mark(0), true);
        Checks.due("when it comes", y.get(0), 400);
    }

    private static void delayedPlaceBehindIt() {
        Checks.sentence("behind a delayed instruction that wrote the place, the place is that behind it");
        PlainSteps x = afterJump(0, row(0, 0, 0, 1));
        x.step(1);
        Checks.due("told by get", x.get(0), 202);
        x.step(1);
        Checks.due("read by the next one, 2 more", x.get(1), 204);
        PlainSteps y = afterJump(0, row(18, 35, 32, 0));
        y.step(2);
        Checks.due("told of a fault", y.fault(1), 202);
        PlainSteps z = Checks.ready();
        Checks.define(z, 1, 4, row(0, 34, 34, 0), row(21, 0, 0, 0));
        Checks.words(z, 200, 0x0100);
        z.step(1);
        Checks.due("also when it halts", z.get(0), 202);
        Checks.due("halted", z.halted(), 1);
    }

    private static void delayedToTheSamePlace() {
        Checks.sentence("DELAYED: a place that it writes: that behind it, or its own");
        PlainSteps x = Checks.ready();
        Checks.define(x, 1, 4, row(0, 0, 0, 0));
        Checks.define(x, 3, 0);
        Checks.words(x, 200, 0x0100, 0x0300, 0x0300);
        x.step(2);
        Checks.due("the one behind it comes again", x.get(0), 202);
        x.step(1);
        Checks.due("once", x.get(0), 204);
    }

    private static void delayedToAnOddPlace() {
        Checks.sentence("DELAYED: a place that it writes, odd or behind memory: its fault comes when it is fetched");
        for (int place : new int[] {401, 4096, 65535}) {
            PlainSteps x = Checks.ready();
            x.constant(place);
            Checks.define(x, 1, 4, row(0, 36, 36, 0));
            Checks.define(x, 3, 0);
            Checks.words(x, 200, 0x0100, 0x0300);
            x.step(2);
            Checks.due("no fault yet", x.counter(2), 0);
            Checks.due("the place", x.get(0), place);
            x.step(1);
            Checks.due("the fault", x.fault(0), 2);
            Checks.due("its place", x.fault(1), place);
        }
        PlainSteps y = Checks.ready();
        y.constant(65536 + 300);
        Checks.define(y, 1, 4, row(0, 36, 36, 0));
        Checks.define(y, 3, 0);
        Checks.words(y, 200, 0x0100, 0x0300);
        y.step(2);
        Checks.due("cut to 16 bits", y.get(0), 300);
    }

    private static void delayedWithoutWriting() {
        Checks.sentence("DELAYED: that writes no place is like another one");
        PlainSteps x = Checks.ready();
        Checks.define(x, 1, 4, row(0, 33, 33, 1), row(17, 35, 35, 0), row(0, 34, 34, 0));
        Checks.define(x, 3, 0);
        Checks.words(x, 200, 0x0100, 0x0300, 0x0300);
        x.step(1);
        Checks.due("its register is written at once", x.get(1), 5);
        Checks.due("the place", x.get(0), 202);
        x.step(1);
        Checks.due("nothing waits", x.get(0), 204);
    }

    private static void delayedOnce() {
        Checks.sentence("the place that was written comes behind the next instruction that is done");
        PlainSteps x = afterJump(0, row(21, 0, 0, 0));
        x.step(2);
        Checks.due("also behind one that halts", x.get(0), 400);
        Checks.due("halted", x.halted(), 1);
        PlainSteps y = afterJump(0, row(17, 35, 35, 0), row(18, 35, 32, 0));
        y.step(2);
        Checks.due("also behind one that 17 ends", y.get(0), 400);
        y.step(1);
        Checks.due("once", y.get(0), 402);
        y.step(1);
        Checks.due("and no more", y.get(0), 404);
    }
}
