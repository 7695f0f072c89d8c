/** Promises 13 and 14: line, enable, and the interrupts that they make. */
public final class InterruptsTest {
    public static void main(String[] args) {
        calls();
        wrongCalls();
        greatestRank();
        lowestLine();
        placesOfLines();
        ranksAboveTheLevel();
        notEnabled();
        nested();
        keptFull();
        marks();
        Checks.finish();
    }

    private static PlainSteps idle() {
        PlainSteps x = new PlainSteps();
        x.instruction(0, 0, 0);
        x.set(0, 200);
        return x;
    }

    private static void calls() {
        PlainSteps x = new PlainSteps();
        Checks.due("off", x.line(7, true), false);
        Checks.due("on", x.line(7, true), true);
        Checks.due("on still", x.line(7, false), true);
        Checks.due("off again", x.line(7, false), false);
        Checks.due("rank 1", x.enable(0, 14), 1);
        Checks.due("rank 14", x.enable(0, 0), 14);
        Checks.due("rank 0", x.enable(0, 2), 0);
        Checks.due("another's", x.enable(1, 2), 1);
    }

    private static void wrongCalls() {
        PlainSteps x = new PlainSteps();
        for (int line : new int[] {-1, 8, Integer.MIN_VALUE, Integer.MAX_VALUE}) {
            Checks.dueThrow("line " + line, IndexOutOfBoundsException.class, () -> x.line(line, true));
            Checks.dueThrow("enable " + line, IndexOutOfBoundsException.class, () -> x.enable(line, 1));
            Checks.dueThrow("the line first", IndexOutOfBoundsException.class, () -> x.enable(line, 15));
        }
        for (int rank : new int[] {-1, 15, Integer.MIN_VALUE, Integer.MAX_VALUE}) {
            Checks.dueThrow("rank " + rank, IllegalArgumentException.class, () -> x.enable(0, rank));
        }
        Checks.due("nothing changed", x.enable(0, 1), 1);
    }

    private static void greatestRank() {
        PlainSteps x = idle();
        x.enable(2, 4);
        x.enable(5, 9);
        x.enable(6, 7);
        x.line(2, true);
        x.line(5, true);
        x.line(6, true);
        Checks.due("a step", x.step(1), 1);
        Checks.due("line 5", x.get(0), 84);
        Checks.due("its rank", x.counter(6), 9);
        Checks.due("kept", x.counter(7), 1);
        Checks.due("an interrupt", x.counter(3), 1);
        Checks.due("no instruction", x.counter(1), 0);
        Checks.due("no fault", x.counter(2), 0);
        Checks.due("it stays on", x.line(5, true), true);
    }

    private static void lowestLine() {
        PlainSteps x = idle();
        for (int i = 7; i >= 3; i--) {
            x.enable(i, 14);
            x.line(i, true);
        }
        x.line(0, true);
        x.step(1);
        Checks.due("the lowest of the greatest", x.get(0), 76);
    }

    private static void placesOfLines() {
        for (int i = 0; i < 8; i++) {
            PlainSteps x = idle();
            x.line(i, true);
            x.step(1);
            Checks.due("place of " + i, x.get(0), 64 + 4 * i);
            Checks.due("level of " + i, x.counter(6), 1);
        }
    }

    private static void ranksAboveTheLevel() {
        PlainSteps x = idle();
        x.line(0, true);
        x.step(1);
        x.step(1);
        Checks.due("its own rank is not above the level", x.get(0), 66);
        x.enable(0, 2);
        x.step(1);
        Checks.due("a greater one is", x.get(0), 64);
        Checks.due("two", x.counter(3), 2);
        x.set(0, 1);
        x.enable(0, 0);
        x.step(1);
        x.enable(0, 14);
        Checks.due("level 15", x.counter(6), 15);
        x.step(1);
        Checks.due("nothing is above 15", x.get(0), 10);
    }

    private static void notEnabled() {
        PlainSteps x = idle();
        x.enable(4, 0);
        x.line(4, true);
        x.enable(3, 9);
        x.step(1);
        Checks.due("neither off nor without rank", x.get(0), 202);
        x.line(3, true);
        x.step(1);
        Checks.due("on", x.get(0), 76);
    }

    private static void nested() {
        PlainSteps x = new PlainSteps();
        Checks.define(x, 1, 0, Checks.row(22, 0, 0, 0));
        Checks.words(x, 64, 0x100);
        Checks.words(x, 68, 0x100);
        x.set(0, 202);
        x.enable(0, 3);
        x.enable(1, 8);
        x.line(0, true);
        x.step(1);
        x.line(1, true);
        x.step(1);
        Checks.due("the second", x.get(0), 68);
        x.line(1, false);
        x.line(0, false);
        x.step(1);
        Checks.due("back in the first", x.get(0), 64);
        Checks.due("at its level", x.counter(6), 3);
        x.step(1);
        Checks.due("back at last", x.get(0), 202);
        Checks.due("level 0", x.counter(6), 0);
    }

    private static void keptFull() {
        PlainSteps x = idle();
        for (int rank = 1; rank <= 8; rank++) {
            x.enable(rank - 1, rank);
            x.line(rank - 1, true);
            x.step(1);
        }
        Checks.due("eight", x.counter(7), 8);
        Checks.due("it runs", x.halted(), 0);
        x.set(0, 300);
        x.enable(2, 12);
        Checks.due("the step counts", x.step(4), 1);
        Checks.due("halted", x.halted(), 2);
        Checks.due("the place stays", x.get(0), 300);
        Checks.due("the level stays", x.counter(6), 8);
        Checks.due("not counted", x.counter(3), 8);
        Checks.due("no fault", x.counter(2), 0);
        Checks.due("none told", x.fault(0), 0);
        Checks.due("steps", x.counter(0), 9);
        Checks.dueThrow("no step", IllegalStateException.class, () -> x.step(1));
    }

    private static void marks() {
        PlainSteps x = new PlainSteps();
        Checks.define(x, 1, 0, Checks.row(19, 0, 0, 0));
        Checks.define(x, 2, 0, Checks.row(22, 0, 0, 0));
        Checks.words(x, 200, 0x100);
        Checks.words(x, 64, 0x200);
        x.set(0, 200);
        x.step(1);
        Checks.due("marked", x.mark(0), true);
        x.line(0, true);
        x.step(1);
        Checks.due("without a mark", x.mark(0), false);
        x.line(0, false);
        x.step(1);
        Checks.due("back", x.get(0), 202);
        Checks.due("without a mark, too", x.mark(0), false);
    }
}
