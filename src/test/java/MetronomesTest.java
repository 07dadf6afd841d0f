/** Promises 1 to 9: a new object, metronome, weigh, wind, hold, take, run, stop, set. */
public final class MetronomesTest {
    private static final Class<?> ARGUMENT = IllegalArgumentException.class;
    private static final Class<?> STATE = IllegalStateException.class;
    private static final Class<?> INDEX = IndexOutOfBoundsException.class;

    private MetronomesTest() {
    }

    public static void main(String[] args) {
        newObject();
        metronome();
        metronomeWrong();
        weigh();
        wind();
        hold();
        take();
        runFirstSteps();
        runPasses3600();
        runFallsBelow0();
        runFallsTo0();
        runPullsAreReckonedAtOnce();
        runSprings();
        runTogether();
        runWithoutThoseThatGo();
        runLimits();
        stop();
        set();
        Check.finish("MetronomesTest");
    }

    private static void newObject() {
        BoardMetronomes x = new BoardMetronomes();
        int[] counts = {0, 0, 0, 0, 1000, 1000, 0, 0, 0, 0, 0, 0};
        for (int what = 0; what < counts.length; what++) {
            Check.due("new: count(" + what + ")", x.count(what), counts[what]);
        }
        Check.due("new: setting(0)", x.setting(0), 50);
        Check.due("new: setting(1)", x.setting(1), 10);
        Check.due("new: setting(2)", x.setting(2), 50);
        Check.due("new: firstError", x.firstError(), 0);
        Check.due("new: clearBuffer", x.clearBuffer(), 0);
        Check.throwsAndChangesNothing("new: goBack(0)", x, STATE, () -> x.goBack(0));
        Check.throwsAndChangesNothing("new: goBack(1)", x, STATE, () -> x.goBack(1));
        Check.throwsAndChangesNothing("new: undo", x, STATE, x::undo);
    }

    private static void metronome() {
        BoardMetronomes x = new BoardMetronomes();
        int[][] arms = {{40, 0, 0}, {208, 3599, 999}, {40, 3599, 1}, {100, 1800, 500}, {60, 899, 2}, {61, 900, 3}};
        for (int i = 0; i < arms.length; i++) {
            Check.due("metronome " + i, x.metronome(arms[i][0], arms[i][1], arms[i][2]), i);
            Check.due("saved states", x.count(11), i + 1);
            for (int what = 0; what < 3; what++) {
                Check.due("arm(" + i + ", " + what + ")", x.arm(i, what), arms[i][what]);
            }
            Check.due("a new one is not held", x.arm(i, 3), 0);
            Check.due("a new one has no ticks", x.arm(i, 5), 0);
        }
        Check.due("count(0)", x.count(0), 6);
        Check.due("count(1)", x.count(1), 5);
        Check.throwsAndChangesNothing("a seventh metronome", x, STATE, () -> x.metronome(100, 0, 1));
        Check.throwsAndChangesNothing("a seventh, beat 39", x, ARGUMENT, () -> x.metronome(39, 0, 1));
        Check.due("undo", x.undo(), 5);
        Check.due("count(0) behind undo", x.count(0), 5);
    }

    private static void metronomeWrong() {
        BoardMetronomes x = new BoardMetronomes();
        int[][] wrong = {{39, 0, 0}, {209, 0, 0}, {40, -1, 0}, {40, 3600, 0}, {40, 0, -1}, {40, 0, 1000},
            {Integer.MIN_VALUE, 0, 0}, {Integer.MAX_VALUE, 0, 0}, {40, Integer.MIN_VALUE, 0},
            {40, Integer.MAX_VALUE, 0}, {40, 0, Integer.MIN_VALUE}, {40, 0, Integer.MAX_VALUE}};
        for (int[] w : wrong) {
            Check.throwsAndChangesNothing("metronome(" + w[0] + ", " + w[1] + ", " + w[2] + ")", x, ARGUMENT,
                () -> x.metronome(w[0], w[1], w[2]));
        }
    }

    private static void weigh() {
        BoardMetronomes x = new BoardMetronomes();
        Check.throwsAndChangesNothing("weigh(0, 40) without metronomes", x, INDEX, () -> x.weigh(0, 40));
        x.metronome(100, 7, 5);
        x.metronome(110, 8, 6);
        Check.due("weigh(0, 40)", x.weigh(0, 40), 100);
        Check.due("weigh(0, 208)", x.weigh(0, 208), 40);
        Check.due("weigh(0, 208) again", x.weigh(0, 208), 208);
        Check.due("arm(0, 0)", x.arm(0, 0), 208);
        Check.due("arm(1, 0)", x.arm(1, 0), 110);
        Check.due("saved states", x.count(11), 5);
        Check.throwsAndChangesNothing("weigh(0, 39)", x, ARGUMENT, () -> x.weigh(0, 39));
        Check.throwsAndChangesNothing("weigh(0, 209)", x, ARGUMENT, () -> x.weigh(0, 209));
        Check.throwsAndChangesNothing("weigh(2, 100)", x, INDEX, () -> x.weigh(2, 100));
        Check.throwsAndChangesNothing("weigh(-1, 100)", x, INDEX, () -> x.weigh(-1, 100));
        Check.throwsAndChangesNothing("weigh(2, 39)", x, INDEX, () -> x.weigh(2, 39));
        Check.throwsAndChangesNothing("weigh(6, 39)", x, INDEX, () -> x.weigh(6, 39));
        x.undo();
        x.undo();
        Check.due("arm(0, 0) behind two undos", x.arm(0, 0), 40);
    }

    private static void wind() {
        BoardMetronomes x = new BoardMetronomes();
        Check.throwsAndChangesNothing("wind(0, 1) without metronomes", x, INDEX, () -> x.wind(0, 1));
        x.metronome(100, 7, 5);
        x.metronome(110, 8, 6);
        Check.due("wind(1, 0)", x.wind(1, 0), 6);
        Check.due("it does not go", x.arm(1, 4), 0);
        Check.due("wind(1, 999)", x.wind(1, 999), 0);
        Check.due("it goes", x.arm(1, 4), 1);
        Check.due("wind(1, 1)", x.wind(1, 1), 999);
        Check.due("arm(1, 2)", x.arm(1, 2), 1);
        Check.due("arm(0, 2)", x.arm(0, 2), 5);
        Check.due("saved states", x.count(11), 5);
        Check.throwsAndChangesNothing("wind(1, -1)", x, ARGUMENT, () -> x.wind(1, -1));
        Check.throwsAndChangesNothing("wind(1, 1000)", x, ARGUMENT, () -> x.wind(1, 1000));
        Check.throwsAndChangesNothing("wind(2, 1)", x, INDEX, () -> x.wind(2, 1));
        Check.throwsAndChangesNothing("wind(-1, 1)", x, INDEX, () -> x.wind(-1, 1));
        Check.throwsAndChangesNothing("wind(2, 1000)", x, INDEX, () -> x.wind(2, 1000));
        x.undo();
        Check.due("arm(1, 2) behind undo", x.arm(1, 2), 999);
    }

    private static void hold() {
        BoardMetronomes x = new BoardMetronomes();
        Check.throwsAndChangesNothing("hold(0) without metronomes", x, INDEX, () -> x.hold(0));
        x.metronome(100, 0, 5);
        x.metronome(100, 0, 0);
        Check.due("hold(0)", x.hold(0), 1);
        Check.due("arm(0, 3)", x.arm(0, 3), 1);
        Check.due("arm(0, 4)", x.arm(0, 4), 0);
        Check.due("arm(1, 3)", x.arm(1, 3), 0);
        Check.due("hold(0) again", x.hold(0), 0);
        Check.due("arm(0, 4) again", x.arm(0, 4), 1);
        Check.due("hold(1), whose spring is 0", x.hold(1), 1);
        Check.due("hold(1) again", x.hold(1), 0);
        Check.due("arm(1, 4)", x.arm(1, 4), 0);
        Check.due("saved states", x.count(11), 6);
        Check.throwsAndChangesNothing("hold(2)", x, INDEX, () -> x.hold(2));
        Check.throwsAndChangesNothing("hold(-1)", x, INDEX, () -> x.hold(-1));
        Check.throwsAndChangesNothing("hold(6)", x, INDEX, () -> x.hold(6));
        x.undo();
        Check.due("arm(1, 3) behind undo", x.arm(1, 3), 1);
        x.hold(0);
        x.run(3);
        Check.due("a held one stays where it is", x.arm(0, 1), 0);
    }

    private static void take() {
        BoardMetronomes x = new BoardMetronomes();
        Check.throwsAndChangesNothing("take without metronomes", x, STATE, x::take);
        x.set(1, 0);
        x.metronome(100, 5, 5);
        x.metronome(110, 3599, 6);
        x.run(1);
        x.hold(1);
        Check.due("arm(1, 5)", x.arm(1, 5), 1);
        Check.due("take", x.take(), 1);
        Check.due("the ticks of one taken away count", x.count(3), 1);
        Check.throwsAndChangesNothing("arm(1, 0)", x, INDEX, () -> x.arm(1, 0));
        Check.due("saved states", x.count(11), 6);
        Check.due("a new one behind take", x.metronome(120, 8, 7), 1);
        Check.due("its beat", x.arm(1, 0), 120);
        Check.due("it is not held", x.arm(1, 3), 0);
        Check.due("it has not ticked", x.arm(1, 5), 0);
        x.undo();
        x.undo();
        Check.due("count(0) behind undo", x.count(0), 2);
        Check.due("held as before", x.arm(1, 3), 1);
        Check.due("ticks as before", x.arm(1, 5), 1);
        x.take();
        Check.due("take of the last one", x.take(), 0);
        Check.throwsAndChangesNothing("take behind that", x, STATE, x::take);
    }

    /** By hand: swing(0) = 0, turn(0) = 1000; swing(100) = 209, turn(100) = 987. */
    private static void runFirstSteps() {
        BoardMetronomes x = new BoardMetronomes();
        x.metronome(100, 0, 5);
        Check.due("run(1)", x.run(1), 0);
        Check.due("a: 0", x.count(4), 1000);
        Check.due("b: (0 * 50 + 1000 * 50) / 100", x.count(5), 1500);
        Check.due("no pull yet", x.arm(0, 1), 100);
        Check.due("swing", x.arm(0, 6), 1209);
        Check.due("turn", x.arm(0, 7), 1987);
        x.run(1);
        Check.due("a: 209 * 50 / 100", x.count(4), 1104);
        Check.due("b: (500 * 50 + 987 * 50) / 100", x.count(5), 1743);
        Check.due("pull -5: 10 * (104 * 987 - 743 * 209) / 100000", x.arm(0, 1), 195);
        Check.due("steps", x.count(2), 2);
        Check.due("saved states", x.count(11), 3);
        x.undo();
        x.undo();
        Check.due("phase behind two undos", x.arm(0, 1), 0);
        Check.due("steps behind two undos", x.count(2), 0);
        Check.due("run(2)", x.run(2), 0);
        Check.due("two steps at once", x.arm(0, 1), 195);
        Check.due("they are undone as one call", x.undo(), 1);
        Check.due("phase behind that", x.arm(0, 1), 0);
        Check.due("b behind that", x.count(5), 1000);
    }

    private static void runPasses3600() {
        BoardMetronomes x = new BoardMetronomes();
        x.set(1, 0);
        x.metronome(40, 3559, 9);
        x.metronome(40, 3560, 9);
        x.metronome(208, 3599, 9);
        Check.due("run(1)", x.run(1), 2);
        Check.due("3599 does not tick", x.arm(0, 1), 3599);
        Check.due("its spring", x.arm(0, 2), 9);
        Check.due("its ticks", x.arm(0, 5), 0);
        Check.due("3600 ticks", x.arm(1, 1), 0);
        Check.due("its spring is 1 less", x.arm(1, 2), 8);
        Check.due("its ticks", x.arm(1, 5), 1);
        Check.due("3807 ticks", x.arm(2, 1), 207);
        Check.due("all ticks", x.count(3), 2);
    }

    /** By hand: A = (0 - 1000) / 2 = -500, B = (1000 + 0) / 2 = 500; nothing stays of the board. */
    private static void runFallsBelow0() {
        BoardMetronomes x = new BoardMetronomes();
        x.set(0, 0);
        x.set(1, 99);
        x.metronome(40, 0, 9);
        x.metronome(40, 2700, 9);
        Check.due("run(1)", x.run(1), 0);
        Check.due("a", x.count(4), 500);
        Check.due("b", x.count(5), 1500);
        Check.due("0 + 40 - 495 + 3600", x.arm(0, 1), 3145);
        Check.due("it does not tick", x.arm(0, 5), 0);
        Check.due("its spring", x.arm(0, 2), 9);
        Check.due("2700 + 40 + 495", x.arm(1, 1), 3235);
        Check.due("all ticks", x.count(3), 0);
    }

    /** By hand: a = -500, b = 500 again; the pull on 0 is 8 * -500 * 1000 / 100000 = -40, or -45 by 9. */
    private static void runFallsTo0() {
        int[][] rows = {{8, 40, 0}, {9, 44, 3599}, {9, 45, 0}, {9, 46, 1}};
        for (int[] row : rows) {
            BoardMetronomes x = new BoardMetronomes();
            x.set(0, 0);
            x.set(1, row[0]);
            x.metronome(row[1], 0, 9);
            x.metronome(40, 2700, 9);
            Check.due("run(1)", x.run(1), 0);
            Check.due("phase, strength " + row[0] + ", beat " + row[1], x.arm(0, 1), row[2]);
            Check.due("spring", x.arm(0, 2), 9);
        }
    }

    /**
     * The first one has another phase when the second one's pull is reckoned; a and b are those of
     * the phases ahead of the step. By hand: swing(600) = 888, turn(600) = swing(1500) = 555,
     * swing(0) = 0, turn(0) = 1000; A = 444, B = 777; a = 222, b = 388.
     */
    private static void runPullsAreReckonedAtOnce() {
        BoardMetronomes x = new BoardMetronomes();
        x.set(1, 99);
        x.metronome(208, 600, 9);
        x.metronome(40, 0, 9);
        x.run(1);
        Check.due("a", x.count(4), 1222);
        Check.due("b", x.count(5), 1388);
        Check.due("pull 99 * (222 * 555 - 388 * 888) / 100000 = -219", x.arm(0, 1), 600 + 208 - 219);
        Check.due("pull 99 * (222 * 1000 - 388 * 0) / 100000 = 219", x.arm(1, 1), 40 + 219);
    }

    private static void runSprings() {
        BoardMetronomes x = new BoardMetronomes();
        x.set(1, 0);
        x.metronome(40, 3560, 1);
        x.metronome(40, 3560, 0);
        x.metronome(40, 3560, 999);
        Check.due("run(2)", x.run(2), 2);
        Check.due("stopped behind its last tick", x.arm(0, 1), 0);
        Check.due("its spring", x.arm(0, 2), 0);
        Check.due("it does not go", x.arm(0, 4), 0);
        Check.due("a spring of 0 does not go", x.arm(1, 1), 3560);
        Check.due("nor tick", x.arm(1, 5), 0);
        Check.due("a spring of 999", x.arm(2, 2), 998);
        Check.due("goes on", x.arm(2, 1), 40);
        Check.due("those that go", x.count(1), 1);
    }

    private static void runTogether() {
        BoardMetronomes x = new BoardMetronomes();
        x.set(1, 0);
        x.metronome(40, 3560, 9);
        x.metronome(40, 3560, 9);
        x.metronome(40, 3560, 9);
        x.metronome(40, 3520, 9);
        Check.due("run(1)", x.run(1), 3);
        Check.due("a step with three ticks is one step", x.count(10), 1);
        Check.due("run(1): one alone", x.run(1), 1);
        Check.due("one tick is not together", x.count(10), 1);
        Check.due("all ticks", x.count(3), 4);
    }

    private static void runWithoutThoseThatGo() {
        BoardMetronomes x = new BoardMetronomes();
        x.metronome(100, 0, 5);
        x.run(1);
        x.hold(0);
        Check.due("run(1)", x.run(1), 0);
        Check.due("b: 500 * 50 / 100", x.count(5), 1250);
        Check.due("steps go by", x.count(2), 2);
        x.run(1);
        Check.due("b: 250 * 50 / 100", x.count(5), 1125);
        x.run(1);
        Check.due("b: 125 * 50 / 100 is cut", x.count(5), 1062);
        x.set(0, 0);
        x.run(1);
        Check.due("a: nothing stays, and nothing pushes", x.count(4), 1000);
        Check.due("b: nothing stays, and nothing pushes", x.count(5), 1000);
    }

    private static void runLimits() {
        BoardMetronomes x = new BoardMetronomes();
        Check.throwsAndChangesNothing("run(0)", x, ARGUMENT, () -> x.run(0));
        Check.throwsAndChangesNothing("run(501)", x, ARGUMENT, () -> x.run(501));
        Check.throwsAndChangesNothing("run(-1)", x, ARGUMENT, () -> x.run(-1));
        Check.throwsAndChangesNothing("run(max)", x, ARGUMENT, () -> x.run(Integer.MAX_VALUE));
        x.metronome(40, 0, 500);
        x.metronome(41, 0, 500);
        x.set(1, 0);
        for (int i = 0; i < 199; i++) {
            x.run(500);
        }
        Check.throwsAndChangesNothing("run(500) at 99500", x, STATE, () -> x.run(500));
        Check.throwsAndChangesNothing("run(501) at 99500", x, ARGUMENT, () -> x.run(501));
        x.run(499);
        Check.due("steps", x.count(2), 99999);
        Check.throwsAndChangesNothing("run(1) at 99999", x, STATE, () -> x.run(1));
        Check.throwsAndChangesNothing("run(0) at 99999", x, ARGUMENT, () -> x.run(0));
        Check.due("ticks of a spring that ran down", x.arm(0, 5), 500);
        Check.due("all ticks", x.count(3), 1000);
        x.wind(0, 9);
        Check.due("ifRun does not mind the limit", x.ifRun(500, 0, 0), 5);
        Check.due("stopsIn neither", x.stopsIn(0), BoardMetronomes.NONE);
        Check.type(x, "h0;s1;h0");
        Check.due("play stops at the order that passes the limit", x.play(), 1);
        Check.due("h0 is done", x.arm(0, 3), 1);
        x.undo();
        x.undo();
        x.undo();
        Check.due("steps behind undo", x.count(2), 99500);
        Check.due("run(499) again", x.run(499), 0);
    }

    private static void stop() {
        BoardMetronomes x = new BoardMetronomes();
        Check.due("stop of a board at rest", x.stop(), 0);
        Check.due("it is undoable", x.count(11), 1);
        x.set(0, 0);
        x.metronome(40, 0, 9);
        x.metronome(40, 2700, 9);
        x.run(1);
        Check.due("stop: 500 and 500, a was below 0", x.stop(), 1000);
        Check.due("a", x.count(4), 1000);
        Check.due("b", x.count(5), 1000);
        Check.due("the steps stay", x.count(2), 1);
        x.undo();
        Check.due("a behind undo", x.count(4), 500);
        Check.due("b behind undo", x.count(5), 1500);
        BoardMetronomes y = new BoardMetronomes();
        y.set(0, 0);
        y.metronome(40, 2000, 9);
        y.run(1);
        Check.due("a: swing(2000) = -(200 * 1600 / 810)", y.count(4), 1000 - 395);
        Check.due("b: turn(2000) = swing(2900) = -(1100 * 700 / 810)", y.count(5), 1000 - 950);
        Check.due("stop: both below 0", y.stop(), 395 + 950);
    }

    private static void set() {
        BoardMetronomes x = new BoardMetronomes();
        int[] previous = {50, 10, 50};
        int[] highest = {95, 99, 900};
        for (int setting = 0; setting < 3; setting++) {
            int s = setting;
            Check.due("set to the highest", x.set(s, highest[s]), previous[s]);
            Check.due("setting", x.setting(s), highest[s]);
            Check.due("set to 0", x.set(s, 0), highest[s]);
            Check.due("setting", x.setting(s), 0);
            Check.throwsAndChangesNothing("set(" + s + ", -1)", x, ARGUMENT, () -> x.set(s, -1));
            Check.throwsAndChangesNothing("set(" + s + ", too much)", x, ARGUMENT, () -> x.set(s, highest[s] + 1));
        }
        Check.due("saved states", x.count(11), 6);
        Check.throwsAndChangesNothing("set(3, 0)", x, INDEX, () -> x.set(3, 0));
        Check.throwsAndChangesNothing("set(-1, 0)", x, INDEX, () -> x.set(-1, 0));
        Check.throwsAndChangesNothing("set(3, -1)", x, INDEX, () -> x.set(3, -1));
        x.undo();
        Check.due("setting(2) behind undo", x.setting(2), 900);
        x.set(2, 900);
        Check.due("a set that changes nothing is saved too", x.count(11), 6);
        setsWork();
    }

    private static void setsWork() {
        BoardMetronomes x = new BoardMetronomes();
        x.set(0, 95);
        x.metronome(40, 0, 9);
        x.run(1);
        Check.due("95: b is 1000 * 5 / 100", x.count(5), 1050);
        x.run(1);
        Check.due("95: b is (50 * 95 + 998 * 5) / 100, turn(40) = swing(940) = 998", x.count(5), 1097);
    }
}
