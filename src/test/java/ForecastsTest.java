/** Promises 21 to 27: ifRun, untilStep, bestStrength, stopsIn, farthest, togetherShare, digest. */
public final class ForecastsTest {
    private static final Class<?> ARGUMENT = IllegalArgumentException.class;
    private static final Class<?> INDEX = IndexOutOfBoundsException.class;
    private static final int NONE = BoardMetronomes.NONE;

    private ForecastsTest() {
    }

    public static void main(String[] args) {
        Check.due("NONE", NONE, -1);
        ifRunByHand();
        ifRunAsRun();
        ifRunWrong();
        untilStep();
        untilStepAtTheEnd();
        bestStrength();
        bestStrengthWrong();
        stopsIn();
        farthest();
        togetherShare();
        digest();
        Check.finish("ForecastsTest");
    }

    private static BoardMetronomes five() {
        BoardMetronomes x = new BoardMetronomes();
        x.metronome(120, 0, 900);
        x.metronome(121, 600, 2);
        x.metronome(120, 1200, 0);
        x.metronome(119, 1800, 900);
        x.metronome(40, 3000, 1);
        return x;
    }

    /** With strength 0 nothing is pulled; the strength that is set, 10, must not matter. */
    private static void ifRunByHand() {
        BoardMetronomes x = new BoardMetronomes();
        x.metronome(100, 3500, 9);
        x.metronome(100, 3500, 2);
        x.metronome(50, 3550, 9);
        long before = x.digest();
        Check.due("ticks in 1 step", x.ifRun(1, 0, 0), 3);
        Check.due("order then: all at 0", x.ifRun(1, 0, 1), 1000);
        Check.due("greatest apart then", x.ifRun(1, 0, 2), 0);
        Check.due("those that go then", x.ifRun(1, 0, 3), 3);
        Check.due("steps together", x.ifRun(1, 0, 4), 1);
        Check.due("apart in 2 steps", x.ifRun(2, 0, 2), 50);
        Check.due("ticks in 36 steps", x.ifRun(36, 0, 0), 3);
        Check.due("ticks in 37 steps", x.ifRun(37, 0, 0), 5);
        Check.due("one has run down then", x.ifRun(37, 0, 3), 2);
        Check.due("steps together", x.ifRun(37, 0, 4), 2);
        Check.due("nothing has changed", x.digest(), before);
        Check.due("ifRun is not saved", x.count(11), 3);
        x.set(1, 0);
        x.run(1);
        Check.due("ticks before it do not count", x.ifRun(36, 0, 0), 2);
        Check.due("steps together before it do not count", x.ifRun(36, 0, 4), 1);
    }

    /** What ifRun tells is what run brings with this strength set. */
    private static void ifRunAsRun() {
        int[] steps = {1, 2, 30, 250, 500};
        int[] strengths = {0, 1, 20, 99};
        for (int s : steps) {
            for (int strength : strengths) {
                BoardMetronomes x = five();
                x.run(40);
                BoardMetronomes y = five();
                y.run(40);
                y.set(1, strength);
                int together = y.count(10);
                Check.due("ticks", x.ifRun(s, strength, 0), y.run(s));
                Check.due("order", x.ifRun(s, strength, 1), y.count(6));
                Check.due("greatest apart", x.ifRun(s, strength, 2), y.count(9));
                Check.due("those that go", x.ifRun(s, strength, 3), y.count(1));
                Check.due("steps together", x.ifRun(s, strength, 4), y.count(10) - together);
            }
        }
    }

    private static void ifRunWrong() {
        BoardMetronomes x = five();
        int[][] wrong = {{0, 0, 0}, {501, 0, 0}, {-1, 0, 0}, {1, -1, 0}, {1, 100, 0}, {1, 0, -1}, {1, 0, 5},
            {Integer.MAX_VALUE, 0, 0}, {1, Integer.MIN_VALUE, 0}, {1, 0, Integer.MAX_VALUE}};
        for (int[] w : wrong) {
            Check.throwsAndChangesNothing("ifRun(" + w[0] + ", " + w[1] + ", " + w[2] + ")", x, ARGUMENT,
                () -> x.ifRun(w[0], w[1], w[2]));
        }
    }

    private static void untilStep() {
        BoardMetronomes x = new BoardMetronomes();
        Check.due("none", x.untilStep(), NONE);
        x.set(1, 0);
        x.metronome(100, 0, 9);
        Check.due("one", x.untilStep(), NONE);
        x.metronome(90, 90, 9);
        Check.due("90 apart, 10 less a step, 50 are in step", x.untilStep(), 4);
        x.set(2, 0);
        Check.due("until 0 apart", x.untilStep(), 9);
        x.run(9);
        Check.due("now", x.untilStep(), 0);
        x.hold(0);
        Check.due("one goes", x.untilStep(), NONE);
        Check.due("nothing has changed", x.count(2), 9);
        x.hold(0);
        x.metronome(208, 2000, 1);
        Check.due("a third one is far off until it has run down", x.untilStep(), NONE);
        x.set(2, 80);
        Check.due("it stops behind 8 steps, the others are 80 apart then", x.untilStep(), 8);
        x.set(2, 79);
        Check.due("80 apart, setting 2 is 79", x.untilStep(), NONE);
    }

    /** The second one comes nearer by 1 a step. */
    private static void untilStepAtTheEnd() {
        BoardMetronomes x = new BoardMetronomes();
        x.set(1, 0);
        x.set(2, 0);
        x.metronome(40, 0, 999);
        x.metronome(41, 3600 - 500, 999);
        Check.due("500 steps", x.untilStep(), 500);
        x.take();
        x.metronome(41, 3600 - 501, 999);
        Check.due("501 steps", x.untilStep(), NONE);
    }

    private static void bestStrength() {
        BoardMetronomes x = new BoardMetronomes();
        Check.due("none: all the same, the lowest", x.bestStrength(1), 0);
        x.metronome(100, 0, 9);
        Check.due("one, one step", x.bestStrength(1), 0);
        int[] steps = {1, 2, 10, 50, 299, 300};
        for (int s : steps) {
            BoardMetronomes y = five();
            y.run(7);
            Check.due("best behind " + s, y.bestStrength(s), bestByIfRun(y, s));
            y.set(0, 95);
            Check.due("best behind " + s + ", 95", y.bestStrength(s), bestByIfRun(y, s));
            Check.due("nothing has changed", y.setting(1) + y.count(2), 17);
        }
        BoardMetronomes z = new BoardMetronomes();
        z.metronome(120, 0, 900);
        z.metronome(121, 600, 900);
        z.metronome(121, 1800, 900);
        z.metronome(120, 2400, 900);
        z.metronome(121, 3000, 900);
        Check.due("as the shared test tells, 1", z.bestStrength(1), 95);
        Check.due("as the shared test tells, 50", z.bestStrength(50), 75);
        Check.due("as the shared test tells, 300", z.bestStrength(300), 85);
    }

    private static int bestByIfRun(BoardMetronomes x, int steps) {
        int best = 95;
        for (int strength = 95; strength >= 0; strength -= 5) {
            if (x.ifRun(steps, strength, 1) >= x.ifRun(steps, best, 1)) {
                best = strength;
            }
        }
        return best;
    }

    private static void bestStrengthWrong() {
        BoardMetronomes x = five();
        int[] wrong = {0, -1, 301, Integer.MIN_VALUE, Integer.MAX_VALUE};
        for (int w : wrong) {
            Check.throwsAndChangesNothing("bestStrength(" + w + ")", x, ARGUMENT, () -> x.bestStrength(w));
        }
    }

    private static void stopsIn() {
        BoardMetronomes x = new BoardMetronomes();
        Check.throwsAndChangesNothing("stopsIn(0) of none", x, INDEX, () -> x.stopsIn(0));
        x.set(1, 0);
        x.metronome(40, 3560, 1);
        x.metronome(40, 3559, 1);
        x.metronome(72, 0, 10);
        x.metronome(72, 3599, 11);
        x.metronome(72, 3599, 10);
        x.metronome(40, 0, 0);
        Check.due("it ticks next", x.stopsIn(0), 1);
        Check.due("in two steps", x.stopsIn(1), 2);
        Check.due("50 steps a tick, 10 ticks", x.stopsIn(2), 500);
        Check.due("1 and 50 steps a tick, 11 ticks", x.stopsIn(3), NONE);
        Check.due("10 ticks, the first at once", x.stopsIn(4), 451);
        Check.due("it does not go", x.stopsIn(5), 0);
        x.hold(4);
        Check.due("held", x.stopsIn(4), 0);
        x.wind(3, 999);
        Check.due("a spring of 999", x.stopsIn(3), NONE);
        Check.throwsAndChangesNothing("stopsIn(6)", x, INDEX, () -> x.stopsIn(6));
        Check.throwsAndChangesNothing("stopsIn(-1)", x, INDEX, () -> x.stopsIn(-1));
        Check.due("nothing has changed", x.count(2), 0);
    }

    private static void dueFarthest(BoardMetronomes x, int former, int latter) {
        Check.due("farthest(false)", x.farthest(false), former);
        Check.due("farthest(true)", x.farthest(true), latter);
    }

    private static void farthest() {
        BoardMetronomes x = new BoardMetronomes();
        dueFarthest(x, NONE, NONE);
        x.metronome(100, 50, 1);
        dueFarthest(x, NONE, NONE);
        x.metronome(100, 50, 1);
        dueFarthest(x, 0, 1);
        x.metronome(100, 51, 1);
        dueFarthest(x, 0, 2);
        x.metronome(100, 49, 1);
        dueFarthest(x, 2, 3);
        x.metronome(100, 3549, 1);
        dueFarthest(x, 2, 4);
        x.metronome(100, 3549, 1);
        dueFarthest(x, 2, 4);
        x.hold(4);
        dueFarthest(x, 2, 5);
        x.hold(5);
        x.wind(2, 0);
        dueFarthest(x, 0, 3);
        x.hold(0);
        dueFarthest(x, 1, 3);
        x.hold(1);
        dueFarthest(x, NONE, NONE);
    }

    private static void togetherShare() {
        BoardMetronomes x = new BoardMetronomes();
        Check.dueShare("without steps", x.togetherShare(), 0.0);
        x.set(1, 0);
        x.metronome(40, 3560, 9);
        x.metronome(40, 3560, 9);
        x.run(1);
        Check.dueShare("1 of 1", x.togetherShare(), 1.0);
        x.run(1);
        Check.dueShare("1 of 2", x.togetherShare(), 0.5);
        x.run(1);
        Check.dueShare("1 of 3", x.togetherShare(), 1.0 / 3.0);
        x.run(87);
        Check.dueShare("1 of 90", x.togetherShare(), 1.0 / 90.0);
        x.run(1);
        Check.dueShare("2 of 91", x.togetherShare(), 2.0 / 91.0);
        x.hold(0);
        x.run(1);
        Check.dueShare("2 of 92", x.togetherShare(), 2.0 / 92.0);
    }

    /** The digest as the document lists its values, told by the other methods. */
    static long listed(BoardMetronomes x, boolean slotZero, boolean slotOne, String buffer) {
        java.util.List<Long> values = new java.util.ArrayList<>();
        for (int what = 0; what <= 11; what++) {
            values.add((long) x.count(what));
        }
        for (int setting = 0; setting <= 2; setting++) {
            values.add((long) x.setting(setting));
        }
        for (int number = 0; number < x.count(0); number++) {
            for (int what = 0; what <= 8; what++) {
                values.add((long) x.arm(number, what));
            }
            values.add((long) x.stopsIn(number));
        }
        for (int former = 0; former < x.count(0); former++) {
            for (int latter = former + 1; latter < x.count(0); latter++) {
                values.add((long) x.apart(former, latter));
            }
        }
        for (int what = 0; what <= 4; what++) {
            values.add((long) x.ifRun(40, 20, what));
        }
        values.add((long) x.untilStep());
        values.add((long) x.bestStrength(50));
        values.add((long) x.farthest(false));
        values.add((long) x.farthest(true));
        values.add(Double.doubleToLongBits(x.togetherShare()));
        values.add(slotZero ? 1L : 0L);
        values.add(slotOne ? 1L : 0L);
        values.add((long) buffer.length());
        for (char c : buffer.toCharArray()) {
            values.add((long) c);
        }
        long hash = 2999;
        for (long v : values) {
            hash = 31 * hash + v;
        }
        return hash;
    }

    private static void digest() {
        BoardMetronomes x = new BoardMetronomes();
        Check.due("digest of a new object", x.digest(), listed(x, false, false, ""));
        Check.due("digest twice", x.digest(), x.digest());
        x.metronome(120, 3590, 900);
        x.metronome(121, 3595, 2);
        Check.due("digest of two", x.digest(), listed(x, false, false, ""));
        Check.type(x, "m40@0*~!");
        Check.due("digest with a buffer", x.digest(), listed(x, false, false, "m40@0*~!"));
        x.run(1);
        Check.due("digest, share 1", x.digest(), listed(x, false, false, "m40@0*~!"));
        for (int i = 0; i < 60; i++) {
            x.run(1 + i);
            Check.due("digest behind run " + i, x.digest(), listed(x, false, false, "m40@0*~!"));
        }
        x.keep(1);
        Check.due("digest with slot 1", x.digest(), listed(x, false, true, "m40@0*~!"));
        x.clearBuffer();
        x.keep(0);
        Check.due("digest with both slots", x.digest(), listed(x, true, true, ""));
        BoardMetronomes y = five();
        y.metronome(208, 3599, 999);
        y.keep(0);
        Check.due("digest of six", y.digest(), listed(y, true, false, ""));
    }
}
