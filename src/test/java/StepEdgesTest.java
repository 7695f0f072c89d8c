/** Promises 9, 15 and 16, and the terms on a step, interrupts, faults and halts: a test for each edge told there. */
public final class StepEdgesTest {
    private static final Class<IllegalArgumentException> ARGUMENT = IllegalArgumentException.class;
    private static final Class<IllegalStateException> STATE = IllegalStateException.class;
    private static final Class<IndexOutOfBoundsException> INDEX = IndexOutOfBoundsException.class;

    public static void main(String[] args) {
        stepFewestAndMost();
        stepWrongNumber();
        stepWhileItRuns();
        stepHalted();
        stepExceptionsInOrder();
        interruptOnlyOfLinesOn();
        interruptOnlyOfEnabledOnes();
        interruptOnlyAboveTheLevel();
        interruptOfTheGreatestRank();
        interruptOfTheLowestLine();
        interruptBeforeTheFetch();
        interruptKeeps();
        interruptPlaces();
        interruptWithoutMark();
        interruptIsTheStep();
        fetchOfTheLastWord();
        fetchOfAnOddPlace();
        fetchBehindMemory();
        fetchIsTwoMore();
        fetchLeavesTheMark();
        fetchLowByteFirst();
        noInstruction();
        faultIsTold();
        faultKeeps();
        faultPlaces();
        faultWithoutMark();
        faultIsTheStep();
        eightAreKept();
        ninthFaultHalts();
        ninthFetchFaultHalts();
        ninthInterruptHalts();
        ninthFaultOfEachWay();
        backMakesRoom();
        haltStaysBehindAFault();
        haltWithTwoInstead();
        faultWithoutOne();
        faultOfPlaceZero();
        faultLatest();
        faultWrongWhat();
        haltedRuns();
        haltedByTransfer();
        haltedWhenFull();
        haltedForGood();
        Checks.finish();
    }

    private static int[] row(int op, int a, int b, int to) {
        return Checks.row(op, a, b, to);
    }

    /** Every word is an instruction that does nothing. */
    private static PlainSteps idle() {
        PlainSteps x = Checks.ready();
        x.instruction(0, 0, 0);
        return x;
    }

    private static void stepFewestAndMost() {
        Checks.sentence("9: So many steps (1 .. 5000): how many");
        PlainSteps x = Checks.ready();
        Checks.define(x, 0, 0, row(0, 35, 35, 0), row(1, 1, 32, 1));
        x.set(0, 0);
        Checks.due("one", x.step(1), 1);
        Checks.due("it was done", x.get(1), 11);
        Checks.due("two", x.step(2), 2);
        Checks.due("4999", x.step(4999), 4999);
        Checks.due("5000", x.step(5000), 5000);
        Checks.due("all were done", x.get(1), 10 + 10002);
        Checks.due("all are counted", x.counter(0), 10002);
    }

    private static void stepWrongNumber() {
        Checks.sentence("9: IllegalArgumentException, when n is none of these");
        PlainSteps x = idle();
        for (int n : new int[] {0, -1, 5001, Integer.MIN_VALUE, Integer.MAX_VALUE}) {
            Checks.dueThrow("step " + n, ARGUMENT, () -> x.step(n));
        }
        Checks.due("none was done", x.counter(0), 0);
        Checks.due("the place", x.get(0), 200);
    }

    private static void stepWhileItRuns() {
        Checks.sentence("9: while the machine runs: how many");
        for (int before = 0; before < 3; before++) {
            PlainSteps x = Checks.ready();
            Checks.define(x, 1, 0, row(21, 0, 0, 0));
            Checks.define(x, 2, 0);
            for (int i = 0; i <= before; i++) {
                Checks.words(x, 200 + 2 * i, i == before ? 0x0100 : 0x0200);
            }
            Checks.due("the one that halts, too", x.step(5000), before + 1);
            Checks.due("the place", x.get(0), 202 + 2 * before);
        }
        PlainSteps y = Checks.ready();
        Checks.due("until nothing more can be kept", y.step(5000), 9);
        Checks.due("halted", y.halted(), 2);
    }

    private static void stepHalted() {
        Checks.sentence("9: IllegalStateException, when it has halted");
        PlainSteps x = Checks.ready();
        Checks.define(x, 0, 0, row(21, 0, 0, 0));
        x.step(1);
        Checks.dueThrow("by a transfer", STATE, () -> x.step(1));
        Checks.dueThrow("many", STATE, () -> x.step(5000));
        Checks.due("none was done", x.counter(0), 1);
        Checks.due("the place", x.get(0), 202);
        PlainSteps y = Checks.ready();
        y.step(9);
        Checks.dueThrow("with 2", STATE, () -> y.step(1));
        Checks.due("none was done", y.counter(0), 9);
    }

    private static void stepExceptionsInOrder() {
        Checks.sentence("Of several exceptions the first one told is thrown: step");
        PlainSteps x = Checks.ready();
        Checks.define(x, 0, 0, row(21, 0, 0, 0));
        x.step(1);
        for (int n : new int[] {0, -1, 5001}) {
            Checks.dueThrow("step " + n + ", halted", ARGUMENT, () -> x.step(n));
        }
    }

    private static void interruptOnlyOfLinesOn() {
        Checks.sentence("A STEP: of the lines 0 .. 7 that are on");
        PlainSteps x = idle();
        x.step(1);
        Checks.due("all are off", x.get(0), 202);
        x.line(7, true);
        x.line(7, false);
        x.step(1);
        Checks.due("off again", x.get(0), 204);
        x.line(7, true);
        x.step(1);
        Checks.due("on", x.get(0), 92);
    }

    private static void interruptOnlyOfEnabledOnes() {
        Checks.sentence("A STEP: and enabled (0: not enabled)");
        PlainSteps x = idle();
        x.enable(0, 0);
        x.line(0, true);
        x.step(1);
        Checks.due("not enabled", x.get(0), 202);
        x.enable(0, 1);
        x.step(1);
        Checks.due("enabled", x.get(0), 64);
    }

    private static void interruptOnlyAboveTheLevel() {
        Checks.sentence("A STEP: with a rank above the level");
        for (int level : new int[] {1, 7, 13, 14}) {
            PlainSteps x = idle();
            x.enable(0, level);
            x.line(0, true);
            x.step(1);
            Checks.due("level", x.counter(6), level);
            x.enable(1, level);
            x.line(1, true);
            x.step(1);
            Checks.due("the same rank as level " + level, x.get(0), 66);
            x.enable(1, level - 1);
            x.step(1);
            Checks.due("a rank below " + level, x.get(0), 68);
            x.enable(1, Math.min(level + 1, 14));
            x.step(1);
            Checks.due("a rank above " + level, x.get(0), level == 14 ? 70 : 68);
            Checks.due("interrupts", x.counter(3), level == 14 ? 1 : 2);
        }
        PlainSteps y = idle();
        Checks.keep(y, 1);
        y.enable(0, 14);
        y.line(0, true);
        y.set(0, 200);
        y.step(1);
        Checks.due("no rank is above 15", y.get(0), 202);
    }

    private static void interruptOfTheGreatestRank() {
        Checks.sentence("A STEP: that with the greatest rank");
        for (int most = 0; most < 8; most++) {
            PlainSteps x = idle();
            for (int i = 0; i < 8; i++) {
                x.line(i, true);
                x.enable(i, i == most ? 9 : 8 - i % 3);
            }
            x.step(1);
            Checks.due("line " + most, x.get(0), 64 + 4 * most);
            Checks.due("its rank", x.counter(6), 9);
        }
    }

    private static void interruptOfTheLowestLine() {
        Checks.sentence("A STEP: of these the lowest one");
        for (int lowest = 0; lowest < 8; lowest++) {
            PlainSteps x = idle();
            for (int i = 7; i >= 0; i--) {
                x.line(i, true);
                x.enable(i, i >= lowest ? 9 : 8);
            }
            x.step(1);
            Checks.due("line " + lowest, x.get(0), 64 + 4 * lowest);
        }
    }

    private static void interruptBeforeTheFetch() {
        Checks.sentence("A STEP. First the interrupt; else the word at the place");
        PlainSteps x = Checks.ready();
        x.set(0, 65535);
        x.line(2, true);
        x.step(1);
        Checks.due("an interrupt", x.get(0), 72);
        Checks.due("no fault of the odd place", x.counter(2), 0);
        Checks.due("none told", x.fault(0), 0);
    }

    private static void interruptKeeps() {
        Checks.sentence("an INTERRUPT: place and level are kept, the level is this rank");
        PlainSteps x = Checks.ready();
        Checks.define(x, 1, 0, row(22, 0, 0, 0));
        Checks.words(x, 64, 0x0100);
        Checks.words(x, 68, 0x0100);
        x.set(0, 4095);
        x.enable(0, 3);
        x.line(0, true);
        x.step(1);
        Checks.due("kept", x.counter(7), 1);
        Checks.due("level", x.counter(6), 3);
        x.enable(1, 14);
        x.line(1, true);
        x.step(1);
        Checks.due("both are kept", x.counter(7), 2);
        Checks.due("the second's level", x.counter(6), 14);
        x.line(0, false);
        x.line(1, false);
        x.step(1);
        Checks.due("the first one's place", x.get(0), 64);
        Checks.due("the first one's level", x.counter(6), 3);
        x.step(1);
        Checks.due("the place of before", x.get(0), 4095);
        Checks.due("the level of before", x.counter(6), 0);
    }

    private static void interruptPlaces() {
        Checks.sentence("an INTERRUPT: the place 64 + 4 * line");
        for (int i = 0; i < 8; i++) {
            PlainSteps x = idle();
            x.line(i, true);
            x.step(1);
            Checks.due("line " + i, x.get(0), 64 + 4 * i);
        }
    }

    private static void interruptWithoutMark() {
        Checks.sentence("an INTERRUPT: without a mark");
        PlainSteps x = Checks.ready();
        Checks.define(x, 0, 0, row(19, 0, 0, 0));
        x.step(1);
        Checks.due("a mark before", x.mark(0), true);
        x.line(0, true);
        x.step(1);
        Checks.due("none", x.mark(0), false);
    }

    private static void interruptIsTheStep() {
        Checks.sentence("an INTERRUPT: that is the step");
        PlainSteps x = Checks.ready();
        Checks.define(x, 0, 0, row(1, 1, 32, 1));
        x.line(0, true);
        Checks.due("one step", x.step(1), 1);
        Checks.due("no instruction", x.get(1), 10);
        Checks.due("nor one counted", x.counter(1), 0);
        Checks.due("nor a transfer", x.counter(8), 0);
        Checks.due("the place", x.get(0), 64);
        Checks.due("the step is counted", x.counter(0), 1);
        Checks.due("the line is on still", x.line(0, true), true);
    }

    private static void fetchOfTheLastWord() {
        Checks.sentence("the word at the place is fetched: the first and the last one");
        for (int place : new int[] {0, 4094}) {
            PlainSteps x = Checks.ready();
            x.field(0, 15, false);
            x.transfer(0, 64, 64, 1);
            x.instruction(0, 0, 0);
            Checks.words(x, place, 0xfedc);
            x.set(0, place);
            x.step(1);
            Checks.due("the word at " + place, x.get(1), 0xfedc);
            Checks.due("no fault at " + place, x.counter(2), 0);
            Checks.due("the place then", x.get(0), place + 2);
        }
    }

    private static void dueFetchFault(int place) {
        PlainSteps x = Checks.ready();
        x.transfer(19, 0, 0, 1);
        x.instruction(0, 0, 0);
        x.set(0, place);
        x.step(1);
        Checks.due("the kind at " + place, x.fault(0), 2);
        Checks.due("its place", x.fault(1), place);
        Checks.due("the place then", x.get(0), 8);
        Checks.due("no transfer is done", x.mark(1), false);
        Checks.due("nor counted", x.counter(8), 0);
    }

    private static void fetchOfAnOddPlace() {
        Checks.sentence("(its place odd: FAULT 2)");
        for (int place : new int[] {1, 3, 201, 4093, 4095}) {
            dueFetchFault(place);
        }
    }

    private static void fetchBehindMemory() {
        Checks.sentence("(or memory ends: FAULT 2)");
        for (int place : new int[] {4096, 4097, 4098, 8192, 32768, 65534, 65535}) {
            dueFetchFault(place);
        }
        PlainSteps x = idle();
        x.set(0, 4094);
        x.step(2);
        Checks.due("running behind the last word", x.fault(0), 2);
        Checks.due("its place", x.fault(1), 4096);
        PlainSteps y = idle();
        y.set(0, 65536);
        y.step(1);
        Checks.due("a place that was cut is none behind memory", y.fault(0), 0);
    }

    private static void fetchIsTwoMore() {
        Checks.sentence("THE PLACE is 2 more for what is read in the instruction");
        for (int place : new int[] {0, 200, 4092, 4094}) {
            PlainSteps x = Checks.ready();
            x.transfer(0, 0, 0, 1);
            x.transfer(1, 35, 0, 2);
            x.instruction(0, 0, 0);
            x.set(0, place);
            x.step(1);
            Checks.due("as a at " + place, x.get(1), place + 2);
            Checks.due("as b at " + place, x.get(2), place + 2);
            Checks.due("behind it", x.get(0), place + 2);
        }
    }

    private static void fetchLeavesTheMark() {
        Checks.sentence("THE PLACE is 2 more (its mark stays)");
        PlainSteps x = Checks.ready();
        Checks.define(x, 1, 0, row(19, 0, 0, 0));
        Checks.define(x, 2, 0, row(0, 0, 0, 1));
        Checks.words(x, 200, 0x0200, 0x0100, 0x0200, 0x0200);
        x.step(1);
        Checks.due("none before", x.mark(0), false);
        Checks.due("none read", x.mark(1), false);
        x.step(2);
        Checks.due("behind the next one", x.mark(0), true);
        Checks.due("read in it", x.mark(1), true);
        x.step(1);
        Checks.due("and behind that", x.mark(0), true);
    }

    private static void fetchLowByteFirst() {
        Checks.sentence("a WORD has two bytes, the low one first");
        PlainSteps x = Checks.ready();
        x.transfer(0, 32, 32, 1);
        x.instruction(0xffff, 0x1234, 0);
        x.memory(200, 0x34);
        x.memory(201, 0x12);
        x.memory(202, 0x12);
        x.memory(203, 0x34);
        x.step(1);
        Checks.due("the low one first", x.get(1), 1);
        x.step(1);
        Checks.due("the high one first is another word", x.fault(0), 1);
        Checks.due("no byte is counted as read", x.counter(4), 0);
    }

    private static void noInstruction() {
        Checks.sentence("no instruction: FAULT 1");
        PlainSteps x = Checks.ready();
        x.transfer(19, 0, 0, 1);
        Checks.words(x, 200, 0x0100);
        x.step(1);
        Checks.due("transfers without an instruction", x.fault(0), 1);
        Checks.due("its place", x.fault(1), 200);
        Checks.due("the place then", x.get(0), 4);
        Checks.due("none is done", x.counter(8), 0);
        PlainSteps y = Checks.ready();
        y.instruction(0xffff, 0x0101, 0);
        Checks.words(y, 200, 0x0100);
        y.step(1);
        Checks.due("another word's instruction", y.fault(0), 1);
    }

    /** A machine with one fault of this kind, made at 200 (2: at 201). */
    private static PlainSteps withFault(int kind) {
        PlainSteps x = Checks.ready();
        x.constant(kind - 8);
        Checks.define(x, 3, 0, row(14, 32, 35, 1));
        Checks.define(x, 4, 0, row(5, 32, 35, 1));
        Checks.define(x, 5, 0, row(20, 0, 0, 0));
        Checks.define(x, 6, 0, row(22, 0, 0, 0));
        Checks.define(x, 8, 0, row(18, 36, 32, 0));
        Checks.define(x, 9, 0, row(19, 0, 0, 0));
        Checks.words(x, 198, 0x0900, kind < 8 ? kind << 8 : 0x0800);
        if (kind == 2) {
            x.set(0, 201);
        }
        x.step(1);
        return x;
    }

    private static void faultIsTold() {
        Checks.sentence("A FAULT: its kind, and the place of the instruction, are told");
        for (int kind = 1; kind < 16; kind++) {
            if (kind != 7) {
                PlainSteps x = withFault(kind);
                Checks.due("kind", x.fault(0), kind);
                Checks.due("the place of " + kind, x.fault(1), kind == 2 ? 201 : 200);
                Checks.due("counted, " + kind, x.counter(2), 1);
            }
        }
    }

    private static void faultKeeps() {
        Checks.sentence("A FAULT: this place and the level are kept, the level is 15");
        for (int kind = 1; kind < 16; kind++) {
            if (kind != 7) {
                PlainSteps x = withFault(kind);
                Checks.due("level, " + kind, x.counter(6), 15);
                Checks.due("kept, " + kind, x.counter(7), 1);
                Checks.words(x, 4 * kind, 0x0600);
                x.step(1);
                Checks.due("back, " + kind, x.get(0), kind == 2 ? 201 : 200);
                Checks.due("its level, " + kind, x.counter(6), 0);
            }
        }
    }

    private static void faultPlaces() {
        Checks.sentence("A FAULT: the place is 4 * kind");
        for (int kind = 1; kind < 16; kind++) {
            if (kind != 7) {
                Checks.due("place of " + kind, withFault(kind).get(0), 4 * kind);
            }
        }
    }

    private static void faultWithoutMark() {
        Checks.sentence("A FAULT: without a mark");
        PlainSteps x = withFault(1);
        x.set(0, 198);
        x.step(1);
        Checks.due("a mark", x.mark(0), true);
        x.step(1);
        Checks.due("a fault", x.counter(2), 2);
        Checks.due("none", x.mark(0), false);
        PlainSteps y = Checks.ready();
        Checks.define(y, 0, 0, row(19, 0, 0, 0), row(18, 35, 32, 0));
        y.step(1);
        Checks.due("a mark of the same instruction", y.mark(0), false);
    }

    private static void faultIsTheStep() {
        Checks.sentence("A FAULT: It is the step");
        PlainSteps x = Checks.ready();
        Checks.define(x, 1, 0, row(1, 1, 32, 1));
        Checks.words(x, 4, 0x0100);
        Checks.words(x, 200, 0xff00);
        Checks.due("one step", x.step(1), 1);
        Checks.due("nothing at the fault's place yet", x.get(1), 10);
        Checks.due("no instruction is counted", x.counter(1), 0);
        Checks.due("the step is", x.counter(0), 1);
        x.step(1);
        Checks.due("in the next step", x.get(1), 11);
    }

    private static void eightAreKept() {
        Checks.sentence("Of places and levels 8 are kept at most: 8 are");
        PlainSteps x = Checks.ready();
        for (int i = 1; i <= 8; i++) {
            x.set(0, 1);
            x.step(1);
            Checks.due("kept", x.counter(7), i);
            Checks.due("it runs", x.halted(), 0);
        }
        PlainSteps y = idle();
        for (int rank = 1; rank <= 8; rank++) {
            y.line(rank - 1, true);
            y.enable(rank - 1, rank);
            y.step(1);
            Checks.due("kept of interrupts", y.counter(7), rank);
            Checks.due("it runs", y.halted(), 0);
        }
        y.step(1);
        Checks.due("and goes on", y.get(0), 94);
    }

    /** Eight are kept, at level 8. */
    private static PlainSteps eightInterrupts() {
        PlainSteps x = idle();
        for (int rank = 1; rank <= 8; rank++) {
            x.line(rank - 1, true);
            x.enable(rank - 1, rank);
            x.step(1);
        }
        return x;
    }

    private static void ninthFaultHalts() {
        Checks.sentence("when there are 8, a fault HALTS the machine instead, with 2: of a transfer");
        PlainSteps x = Checks.ready();
        Checks.keep(x, 8);
        Checks.define(x, 1, 0, row(0, 33, 33, 1), row(0, 34, 34, 0), row(4, 32, 35, 1));
        Checks.words(x, 200, 0x0100);
        x.set(0, 200);
        Checks.due("one step", x.step(10), 1);
        Checks.due("halted", x.halted(), 2);
        Checks.due("nothing is kept", x.counter(7), 8);
        Checks.due("the level", x.counter(6), 15);
        Checks.due("the place is that of the instruction", x.get(0), 200);
        Checks.due("the fault is told", x.fault(0), 4);
        Checks.due("and its place", x.fault(1), 200);
        Checks.due("and counted", x.counter(2), 9);
        Checks.due("what was done stays", x.get(1), 5);
        PlainSteps y = eightInterrupts();
        y.set(0, 4096);
        y.step(1);
        Checks.due("behind eight interrupts", y.halted(), 2);
        Checks.due("the level is not 15", y.counter(6), 8);
        Checks.due("the fault is told", y.fault(0), 2);
        Checks.due("and counted", y.counter(2), 1);
    }

    private static void ninthFetchFaultHalts() {
        Checks.sentence("when there are 8, a fault HALTS the machine instead, with 2: of the fetch");
        for (int place : new int[] {1, 200, 4096, 65535}) {
            PlainSteps x = Checks.ready();
            Checks.keep(x, 8);
            x.set(0, place);
            Checks.due("one step", x.step(10), 1);
            Checks.due("halted", x.halted(), 2);
            Checks.due("nothing is kept", x.counter(7), 8);
            Checks.due("the place", x.get(0), place);
            Checks.due("the fault is told", x.fault(0), place == 200 ? 1 : 2);
            Checks.due("and its place", x.fault(1), place);
            Checks.due("and counted", x.counter(2), 9);
        }
    }

    private static void ninthInterruptHalts() {
        Checks.sentence("when there are 8, an interrupt HALTS the machine instead, with 2 (it is not told or counted)");
        PlainSteps x = eightInterrupts();
        x.set(0, 201);
        x.enable(3, 9);
        x.step(10);
        Checks.due("halted", x.halted(), 2);
        Checks.due("nothing is kept", x.counter(7), 8);
        Checks.due("the level", x.counter(6), 8);
        Checks.due("the place", x.get(0), 201);
        Checks.due("interrupts", x.counter(3), 8);
        Checks.due("faults", x.counter(2), 0);
        Checks.due("no kind", x.fault(0), 0);
        Checks.due("no place", x.fault(1), 0);
        Checks.due("instructions", x.counter(1), 0);
    }

    private static void ninthFaultOfEachWay() {
        Checks.sentence("when there are 8, a fault HALTS the machine instead, with 2: in each way");
        for (int how = 0; how < 8; how++) {
            PlainSteps x = Checks.ready();
            Checks.keep(x, 8);
            Checks.define(x, 1, how, row(0, 33, 33, 1), row(0, 34, 34, 0), row(18, 35, 32, 0));
            Checks.words(x, 200, 0x0100);
            x.set(0, 200);
            x.step(1);
            Checks.due("halted, " + how, x.halted(), 2);
            Checks.due("the place, " + how, x.get(0), 200);
            Checks.due("kept, " + how, x.counter(7), 8);
            Checks.due("told, " + how, x.fault(0), 8);
            Checks.due("what was done, " + how, x.get(1), how % 4 == 0 ? 5 : 10);
        }
    }

    private static void backMakesRoom() {
        Checks.sentence("when there are 8: 22 takes one of them, and a fault behind it is kept");
        for (int how = 0; how < 8; how++) {
            boolean restoring = (how & 2) != 0;
            PlainSteps x = Checks.ready();
            Checks.keep(x, 8);
            Checks.define(x, 1, how, row(22, 0, 0, 0), row(18, 35, 32, 0));
            Checks.words(x, 200, 0x0100);
            x.set(0, 200);
            x.step(1);
            Checks.due("eight again, " + how, x.counter(7), 8);
            Checks.due("halted, " + how, x.halted(), restoring ? 2 : 0);
            Checks.due("the place, " + how, x.get(0), restoring ? 200 : 32);
        }
    }

    private static void haltStaysBehindAFault() {
        Checks.sentence("A halt by 21 stays when a fault comes behind it in the instruction");
        for (int how = 0; how < 8; how++) {
            if ((how & 2) == 0) {
                PlainSteps x = Checks.ready();
                Checks.define(x, 1, how, row(21, 0, 0, 0), row(18, 35, 32, 0));
                Checks.words(x, 200, 0x0100);
                Checks.due("one step, " + how, x.step(3), 1);
                Checks.due("halted, " + how, x.halted(), 1);
                Checks.due("the fault is told, " + how, x.fault(0), 8);
                Checks.due("and counted, " + how, x.counter(2), 1);
                Checks.due("and kept, " + how, x.counter(7), 1);
                Checks.due("its place, " + how, x.get(0), 32);
                Checks.due("its level, " + how, x.counter(6), 15);
                Checks.due("not done without a fault, " + how, x.counter(1), 0);
            }
        }
        PlainSteps y = Checks.ready();
        Checks.define(y, 1, 0, row(18, 35, 32, 0), row(21, 0, 0, 0));
        Checks.words(y, 200, 0x0100);
        y.step(1);
        Checks.due("21 behind a fault is not done", y.halted(), 0);
    }

    private static void haltWithTwoInstead() {
        Checks.sentence("A halt by 21 stays when a fault comes behind it (with 2 instead as told)");
        for (int how = 0; how < 8; how++) {
            PlainSteps x = Checks.ready();
            Checks.keep(x, 8);
            Checks.define(x, 1, how, row(21, 0, 0, 0), row(18, 35, 32, 0));
            Checks.words(x, 200, 0x0100);
            x.set(0, 200);
            x.step(1);
            Checks.due("halted, " + how, x.halted(), 2);
        }
        PlainSteps y = Checks.ready();
        Checks.keep(y, 8);
        Checks.define(y, 1, 0, row(21, 0, 0, 0));
        Checks.words(y, 200, 0x0100);
        y.set(0, 200);
        y.step(1);
        Checks.due("without a fault, with 8 kept", y.halted(), 1);
    }

    private static void faultWithoutOne() {
        Checks.sentence("15: The latest fault's kind (0 without one), its instruction's place (0 without)");
        PlainSteps x = idle();
        Checks.due("kind of a new one", x.fault(0), 0);
        Checks.due("place of a new one", x.fault(1), 0);
        x.step(3);
        x.line(0, true);
        x.step(1);
        Checks.due("no kind behind steps and an interrupt", x.fault(0), 0);
        Checks.due("no place behind them", x.fault(1), 0);
    }

    private static void faultOfPlaceZero() {
        Checks.sentence("15: its instruction's place: 0, and the last one");
        PlainSteps x = new PlainSteps();
        x.step(1);
        Checks.due("kind", x.fault(0), 1);
        Checks.due("place 0", x.fault(1), 0);
        x.set(0, 65535);
        x.step(1);
        Checks.due("kind", x.fault(0), 2);
        Checks.due("place 65535", x.fault(1), 65535);
        x.set(0, 4094);
        x.step(1);
        Checks.due("kind", x.fault(0), 1);
        Checks.due("place 4094", x.fault(1), 4094);
    }

    private static void faultLatest() {
        Checks.sentence("15: The latest fault's");
        PlainSteps x = withFault(5);
        Checks.due("the first kind", x.fault(0), 5);
        x.set(0, 301);
        x.step(1);
        Checks.due("the second kind", x.fault(0), 2);
        Checks.due("the second place", x.fault(1), 301);
        x.set(0, 198);
        x.step(1);
        Checks.due("an instruction without one leaves it", x.fault(0), 2);
        x.set(0, 0);
        x.set(1, 0);
        Checks.due("set leaves it", x.fault(1), 301);
    }

    private static void faultWrongWhat() {
        Checks.sentence("15: IndexOutOfBoundsException, for another what");
        PlainSteps x = withFault(5);
        for (int what : new int[] {-1, 2, 3, Integer.MIN_VALUE, Integer.MAX_VALUE}) {
            Checks.dueThrow("fault " + what, INDEX, () -> x.fault(what));
        }
    }

    private static void haltedRuns() {
        Checks.sentence("16: 0 when the machine runs");
        PlainSteps x = withFault(5);
        Checks.due("behind a fault", x.halted(), 0);
        x.set(0, 198);
        x.step(1);
        Checks.due("behind an instruction", x.halted(), 0);
        Checks.due("of a new one", new PlainSteps().halted(), 0);
    }

    private static void haltedByTransfer() {
        Checks.sentence("16: 1 when it halted by a transfer");
        PlainSteps x = Checks.ready();
        Checks.define(x, 0, 0, row(21, 0, 0, 0));
        Checks.due("before", x.halted(), 0);
        x.step(1);
        Checks.due("then", x.halted(), 1);
    }

    private static void haltedWhenFull() {
        Checks.sentence("16: 2 when nothing more could be kept");
        PlainSteps x = Checks.ready();
        x.step(8);
        Checks.due("eight are kept", x.counter(7), 8);
        Checks.due("before", x.halted(), 0);
        x.step(1);
        Checks.due("then", x.halted(), 2);
    }

    private static void haltedForGood() {
        Checks.sentence("16: a machine that has halted takes other calls, and stays so");
        PlainSteps x = Checks.ready();
        Checks.define(x, 0, 0, row(21, 0, 0, 0));
        x.step(1);
        x.set(0, 300);
        x.line(0, true);
        Checks.due("set", x.get(0), 300);
        Checks.due("memory", x.memory(300, 9), 0);
        Checks.due("a register more", x.register(3), 4);
        Checks.due("an instruction more", x.instruction(0, 0, 0), 1);
        Checks.due("halted", x.halted(), 1);
        Checks.dueThrow("no step", STATE, () -> x.step(1));
        Checks.due("no interrupt", x.get(0), 300);
    }
}
