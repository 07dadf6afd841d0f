/** Promises 17 to 20: arm, apart, count, setting. */
public final class LooksTest {
    private static final Class<?> ARGUMENT = IllegalArgumentException.class;
    private static final Class<?> INDEX = IndexOutOfBoundsException.class;

    private LooksTest() {
    }

    public static void main(String[] args) {
        armSwingsAndTurns();
        armPull();
        armWrong();
        apart();
        apartWrong();
        countOrder();
        countInStep();
        countFarthest();
        countOfWhatIsCounted();
        countWrong();
        setting();
        Check.finish("LooksTest");
    }

    /** By hand: q * (1800 - q) / 810 up to 1799, then that of q - 1800 with the sign less. */
    private static void armSwingsAndTurns() {
        int[] phases = {0, 1, 450, 899, 900, 901, 1350, 1799, 1800, 1801, 2250, 2700, 3150, 3599};
        int[] swings = {0, 2, 750, 999, 1000, 999, 750, 2, 0, -2, -750, -1000, -750, -2};
        int[] turns = {1000, 999, 750, 2, 0, -2, -750, -999, -1000, -999, -750, 0, 750, 999};
        for (int i = 0; i < phases.length; i++) {
            BoardMetronomes x = new BoardMetronomes();
            x.metronome(40, phases[i], 0);
            Check.due("swing of " + phases[i], x.arm(0, 6), 1000 + swings[i]);
            Check.due("turn of " + phases[i], x.arm(0, 7), 1000 + turns[i]);
            x.wind(0, 5);
            x.hold(0);
            Check.due("swing of " + phases[i] + ", held", x.arm(0, 6), 1000 + swings[i]);
            Check.due("turn of " + phases[i] + ", held", x.arm(0, 7), 1000 + turns[i]);
        }
    }

    /** By hand: a = 500, b = 0 behind a step with one arm at 900; see the comments of each row. */
    private static void armPull() {
        BoardMetronomes x = new BoardMetronomes();
        x.metronome(40, 900, 9);
        x.metronome(50, 0, 0);
        x.metronome(50, 2700, 0);
        x.metronome(50, 1800, 0);
        x.metronome(50, 450, 9);
        Check.due("no pull while a and b are 0", x.arm(1, 8), 1000);
        x.hold(4);
        x.run(1);
        Check.due("a", x.count(4), 1500);
        Check.due("b", x.count(5), 1000);
        Check.due("10 * 500 * 1000 / 100000, its spring is 0", x.arm(1, 8), 1050);
        Check.due("10 * 500 * 0 / 100000", x.arm(2, 8), 1000);
        Check.due("10 * 500 * -1000 / 100000", x.arm(3, 8), 950);
        Check.due("10 * 500 * 750 / 100000 = 37.5 is cut, it is held", x.arm(4, 8), 1037);
        Check.due("10 * 500 * turn(940) = swing(1840) = -86", x.arm(0, 8), 1000 - 4);
        x.set(1, 99);
        Check.due("99 * 500 * 1000 / 100000", x.arm(1, 8), 1495);
        Check.due("99 * 500 * -1000 / 100000", x.arm(3, 8), 505);
        x.set(1, 0);
        Check.due("strength 0", x.arm(3, 8), 1000);
        x.set(1, 99);
        x.stop();
        Check.due("a board that is stopped", x.arm(3, 8), 1000);
    }

    private static void armWrong() {
        BoardMetronomes x = new BoardMetronomes();
        for (int i = 0; i < 9; i++) {
            int what = i;
            Check.throwsAndChangesNothing("arm(0, " + i + ") of none", x, INDEX, () -> x.arm(0, what));
        }
        x.metronome(100, 0, 1);
        int[] wrong = {-1, 9, Integer.MIN_VALUE, Integer.MAX_VALUE};
        for (int w : wrong) {
            Check.throwsAndChangesNothing("arm(0, " + w + ")", x, ARGUMENT, () -> x.arm(0, w));
            Check.throwsAndChangesNothing("arm(1, " + w + ")", x, INDEX, () -> x.arm(1, w));
            Check.throwsAndChangesNothing("arm(" + w + ", 0)", x, INDEX,
                () -> x.arm(w == 9 ? 6 : w, 0));
        }
        Check.due("looks are not saved", x.count(11), 1);
    }

    private static void apart() {
        int[][] rows = {{0, 0, 0}, {0, 1800, 1800}, {0, 1801, 1799}, {0, 1799, 1799}, {3599, 0, 1}, {10, 3590, 20},
            {900, 2700, 1800}, {100, 130, 30}};
        for (int[] row : rows) {
            BoardMetronomes x = new BoardMetronomes();
            x.metronome(100, row[0], 1);
            x.metronome(100, row[1], 0);
            Check.due("apart " + row[0] + " " + row[1], x.apart(0, 1), row[2]);
            Check.due("apart the other way", x.apart(1, 0), row[2]);
            x.hold(0);
            Check.due("apart, held", x.apart(0, 1), row[2]);
        }
    }

    private static void apartWrong() {
        BoardMetronomes x = new BoardMetronomes();
        Check.throwsAndChangesNothing("apart(0, 0) of none", x, INDEX, () -> x.apart(0, 0));
        x.metronome(100, 0, 1);
        x.metronome(100, 10, 1);
        Check.throwsAndChangesNothing("apart(0, 0)", x, ARGUMENT, () -> x.apart(0, 0));
        Check.throwsAndChangesNothing("apart(1, 1)", x, ARGUMENT, () -> x.apart(1, 1));
        Check.throwsAndChangesNothing("apart(2, 2)", x, INDEX, () -> x.apart(2, 2));
        Check.throwsAndChangesNothing("apart(-1, -1)", x, INDEX, () -> x.apart(-1, -1));
        Check.throwsAndChangesNothing("apart(0, 2)", x, INDEX, () -> x.apart(0, 2));
        Check.throwsAndChangesNothing("apart(2, 0)", x, INDEX, () -> x.apart(2, 0));
        Check.throwsAndChangesNothing("apart(0, -1)", x, INDEX, () -> x.apart(0, -1));
        Check.throwsAndChangesNothing("apart(-1, 0)", x, INDEX, () -> x.apart(-1, 0));
    }

    private static void dueOrder(BoardMetronomes x, String what, int want) {
        Check.due("order, " + what, x.count(6), want);
        Check.due("order told by pairs, " + what, x.count(7), want);
    }

    private static void countOrder() {
        BoardMetronomes x = new BoardMetronomes();
        dueOrder(x, "none", 0);
        x.metronome(100, 0, 1);
        dueOrder(x, "one: 1000 * 1000 / 1000", 1000);
        x.metronome(100, 450, 1);
        dueOrder(x, "two: (750 * 750 + 1750 * 1750) / 4000 = 906.25", 906);
        x.metronome(100, 1800, 1);
        dueOrder(x, "three: (750 * 750 + 750 * 750) / 9000", 125);
        x.metronome(100, 3, 0);
        dueOrder(x, "a spring of 0 does not count", 125);
        x.hold(2);
        dueOrder(x, "a held one does not count", 906);
        x.hold(0);
        x.hold(1);
        dueOrder(x, "none goes", 0);
        BoardMetronomes y = new BoardMetronomes();
        for (int i = 0; i < 6; i++) {
            y.metronome(40, 450, 9);
        }
        dueOrder(y, "six at 450: 750 * 750 * 2 / 1000", 1125);
    }

    private static void countInStep() {
        BoardMetronomes x = new BoardMetronomes();
        x.metronome(100, 3590, 1);
        Check.due("one is not in step", x.count(8), 0);
        x.metronome(100, 40, 1);
        Check.due("50 apart, setting 2 is 50", x.count(8), 1);
        x.set(2, 49);
        Check.due("50 apart, setting 2 is 49", x.count(8), 0);
        x.set(2, 50);
        x.metronome(100, 41, 1);
        Check.due("51 apart", x.count(8), 0);
        x.hold(2);
        Check.due("the one far off is held", x.count(8), 1);
        x.hold(1);
        Check.due("one goes", x.count(8), 0);
        x.set(2, 0);
        x.metronome(100, 3590, 1);
        Check.due("0 apart, setting 2 is 0", x.count(8), 1);
    }

    private static void countFarthest() {
        BoardMetronomes x = new BoardMetronomes();
        x.metronome(100, 0, 1);
        Check.due("one alone", x.count(9), 0);
        x.metronome(100, 700, 1);
        Check.due("two", x.count(9), 700);
        x.metronome(100, 1800, 1);
        Check.due("three", x.count(9), 1800);
        x.hold(2);
        Check.due("one is held", x.count(9), 700);
        x.wind(1, 0);
        Check.due("one has run down", x.count(9), 0);
    }

    private static void countOfWhatIsCounted() {
        BoardMetronomes x = new BoardMetronomes();
        x.set(1, 0);
        x.metronome(100, 3500, 9);
        x.metronome(100, 3500, 9);
        x.metronome(100, 3400, 1);
        x.hold(2);
        Check.due("count(0)", x.count(0), 3);
        Check.due("count(1)", x.count(1), 2);
        x.run(1);
        x.hold(2);
        x.run(2);
        Check.due("count(1)", x.count(1), 2);
        Check.due("count(2)", x.count(2), 3);
        Check.due("count(3)", x.count(3), 3);
        Check.due("count(10)", x.count(10), 1);
        Check.due("count(11)", x.count(11), 6);
        x.take();
        x.take();
        Check.due("count(0)", x.count(0), 1);
        Check.due("count(3)", x.count(3), 3);
        Check.due("count(10)", x.count(10), 1);
        x.undo();
        Check.due("count(11)", x.count(11), 5);
    }

    private static void countWrong() {
        BoardMetronomes x = new BoardMetronomes();
        int[] wrong = {-1, 12, Integer.MIN_VALUE, Integer.MAX_VALUE};
        for (int w : wrong) {
            Check.throwsAndChangesNothing("count(" + w + ")", x, ARGUMENT, () -> x.count(w));
        }
    }

    private static void setting() {
        BoardMetronomes x = new BoardMetronomes();
        Check.due("setting(0)", x.setting(0), 50);
        Check.due("setting(1)", x.setting(1), 10);
        Check.due("setting(2)", x.setting(2), 50);
        x.set(0, 95);
        x.set(1, 99);
        x.set(2, 900);
        Check.due("setting(0)", x.setting(0), 95);
        Check.due("setting(1)", x.setting(1), 99);
        Check.due("setting(2)", x.setting(2), 900);
        int[] wrong = {-1, 3, Integer.MIN_VALUE, Integer.MAX_VALUE};
        for (int w : wrong) {
            Check.throwsAndChangesNothing("setting(" + w + ")", x, INDEX, () -> x.setting(w));
        }
    }
}
