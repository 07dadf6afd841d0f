/** The sentences of the promises 1 to 9. */
final class ChangesSentences {
    private static final Class<?> ARGUMENT = Unchanged.ARGUMENT;
    private static final Class<?> STATE = Unchanged.STATE;
    private static final Class<?> INDEX = Unchanged.INDEX;
    private static final int LEAST = Integer.MIN_VALUE;
    private static final int MOST = Integer.MAX_VALUE;

    private ChangesSentences() {
    }

    static void all() {
        newObject();
        metronome();
        metronomeWrong();
        weigh();
        wind();
        hold();
        take();
        run();
        runLimits();
        stop();
        set();
    }

    private static void newObject() {
        Page.of("Promise 1:").tells("Creates a board without metronomes, with empty slots and an empty buffer.");
        BoardMetronomes x = new BoardMetronomes();
        Check.due("metronomes", x.count(0), 0);
        Check.due("saved states", x.count(11), 0);
        Check.due("length of the buffer", x.clearBuffer(), 0);
        Check.due("steps", x.count(2), 0);
        Unchanged.refused("goBack(0)", STATE, BoardMetronomes::new, y -> y.goBack(0));
        Unchanged.refused("goBack(1)", STATE, BoardMetronomes::new, y -> y.goBack(1));
        Unchanged.refused("undo", STATE, BoardMetronomes::new, BoardMetronomes::undo);
        Unchanged.refused("arm(0, 0)", INDEX, BoardMetronomes::new, y -> y.arm(0, 0));
    }

    private static void metronome() {
        Page page = Page.of("Promise 2:");
        page.tells("Adds a metronome that is not held.");
        BoardMetronomes x = Benches.unpulled(Benches.arm(40, 3560, 9, 1));
        x.hold(0);
        x.run(1);
        x.hold(0);
        x.take();
        Check.due("one in place of a held one that ticked", x.metronome(41, 7, 8), 0);
        int[] want = {41, 7, 8, 0, 1, 0};
        for (int what = 0; what < want.length; what++) {
            Check.due("arm(0, " + what + ")", x.arm(0, what), want[what]);
        }
        page.tells("Undoable.");
        Unchanged.undoable("metronome", Benches::three, y -> y.metronome(40, 0, 0));
        page.tells("Returns its number.");
        BoardMetronomes z = Benches.three();
        Check.due("the fourth", z.metronome(40, 0, 0), 3);
        z.take();
        z.take();
        Check.due("the third again", z.metronome(40, 0, 0), 2);
        Check.due("three", z.count(0), 3);
    }

    private static void refusedMetronome(int beat, int phase, int spring) {
        Unchanged.refused("metronome(" + beat + ", " + phase + ", " + spring + ")", ARGUMENT, Benches::three,
            x -> x.metronome(beat, phase, spring));
    }

    private static void dueTaken(int beat, int phase, int spring) {
        BoardMetronomes x = Benches.three();
        Check.due("metronome", x.metronome(beat, phase, spring), 3);
        Check.due("beat", x.arm(3, 0), beat);
        Check.due("phase", x.arm(3, 1), phase);
        Check.due("spring", x.arm(3, 2), spring);
    }

    private static void metronomeWrong() {
        Page page = Page.of("Promise 2:");
        page.tells("Throws `IllegalArgumentException` if an argument is out of range");
        page.tells("`beat`: 40 to 208");
        page.tells("`phase`: 0 to 3599");
        page.tells("`spring`: 0 to 999");
        dueTaken(40, 0, 0);
        dueTaken(208, 3599, 999);
        int[] beats = {39, 209, 0, -40, LEAST, MOST};
        int[] phases = {-1, 3600, 7200, LEAST, MOST};
        int[] springs = {-1, 1000, LEAST, MOST};
        for (int beat : beats) {
            refusedMetronome(beat, 0, 0);
        }
        for (int phase : phases) {
            refusedMetronome(40, phase, 0);
        }
        for (int spring : springs) {
            refusedMetronome(40, 0, spring);
        }
        page.tells("Throws `IllegalStateException` if there are 6");
        Unchanged.refused("a seventh", STATE, Benches::six, x -> x.metronome(40, 0, 0));
        BoardMetronomes x = Benches.six();
        x.take();
        Check.due("a sixth behind take", x.metronome(40, 0, 0), 5);
    }

    private static void weigh() {
        Page page = Page.of("Promise 3:");
        page.tells("Moves the weight of a metronome: it has another beat.");
        page.tells("Returns the previous one.");
        page.tells("`beat`: 40 to 208");
        BoardMetronomes x = Benches.unpulled(Benches.arm(100, 0, 9), Benches.arm(101, 0, 9));
        Check.due("weigh to the least", x.weigh(1, 40), 101);
        Check.due("weigh to the greatest", x.weigh(1, 208), 40);
        Check.due("weigh to the same", x.weigh(1, 208), 208);
        x.run(1);
        Check.due("it gets forward by it", x.arm(1, 1), 208);
        Check.due("the other one does not", x.arm(0, 1), 100);
        page.tells("Undoable.");
        Unchanged.undoable("weigh", Benches::three, y -> y.weigh(2, 208));
        page.tells("`number`: its number");
        page.tells("Throws `IndexOutOfBoundsException` if there is no such metronome");
        refusedNumbers("weigh", (y, number) -> y.weigh(number, 100));
        page.tells("Throws `IllegalArgumentException` if beat is out of range");
        int[] beats = {39, 209, 0, -100, LEAST, MOST};
        for (int beat : beats) {
            Unchanged.refused("weigh(0, " + beat + ")", ARGUMENT, Benches::three, y -> y.weigh(0, beat));
        }
    }

    /** A call that takes the number of a metronome. */
    private interface Numbered {
        Object on(BoardMetronomes x, int number);
    }

    private static void refusedNumbers(String call, Numbered made) {
        int[] ofThree = {-1, 3, 5, 6, LEAST, MOST};
        for (int number : ofThree) {
            Unchanged.refused(call + " of " + number + " of three", INDEX, Benches::three, x -> made.on(x, number));
        }
        Unchanged.refused(call + " of 6 of six", INDEX, Benches::six, x -> made.on(x, 6));
        Unchanged.refused(call + " of 0 of none", INDEX, BoardMetronomes::new, x -> made.on(x, 0));
        Unchanged.refused(call + " of one that was taken away", INDEX, () -> {
            BoardMetronomes x = Benches.three();
            x.take();
            return x;
        }, x -> made.on(x, 2));
    }

    private static void wind() {
        Page page = Page.of("Promise 4:");
        page.tells("Winds a spring.");
        page.tells("Returns what it was.");
        page.tells("`spring`: 0 to 999, what it is then");
        BoardMetronomes x = Benches.unpulled(Benches.arm(100, 3500, 0), Benches.arm(101, 3499, 5));
        Check.due("wind to 1", x.wind(0, 1), 0);
        Check.due("it goes", x.arm(0, 4), 1);
        Check.due("wind to the greatest", x.wind(1, 999), 5);
        Check.due("it is that, not that more", x.arm(1, 2), 999);
        Check.due("wind to 0", x.wind(1, 0), 999);
        Check.due("it does not go", x.arm(1, 4), 0);
        Check.due("the other one ticks", x.run(1), 1);
        Check.due("and has run down", x.wind(0, 0), 0);
        page.tells("Undoable.");
        Unchanged.undoable("wind", Benches::three, y -> y.wind(1, 999));
        page.tells("`number`: its number");
        page.tells("Throws `IndexOutOfBoundsException` if there is no such metronome");
        refusedNumbers("wind", (y, number) -> y.wind(number, 5));
        page.tells("Throws `IllegalArgumentException` if spring is out of range");
        int[] springs = {-1, 1000, LEAST, MOST};
        for (int spring : springs) {
            Unchanged.refused("wind(0, " + spring + ")", ARGUMENT, Benches::three, y -> y.wind(0, spring));
        }
    }

    private static void hold() {
        Page page = Page.of("Promise 5:");
        page.tells("Holds a metronome, or lets it go, if it is held.");
        page.tells("Returns 1 if it is held then, otherwise 0.");
        BoardMetronomes x = Benches.unpulled(Benches.arm(100, 0, 9), Benches.arm(100, 0, 0), Benches.arm(100, 0, 9));
        Check.due("hold(0)", x.hold(0), 1);
        Check.due("it is held", x.arm(0, 3), 1);
        Check.due("hold(1), without spring", x.hold(1), 1);
        x.run(2);
        Check.due("a held one stays", x.arm(0, 1), 0);
        Check.due("another one goes", x.arm(2, 1), 200);
        Check.due("hold(0) again", x.hold(0), 0);
        Check.due("hold(1) again", x.hold(1), 0);
        Check.due("it goes", x.arm(0, 4), 1);
        Check.due("without spring it does not go", x.arm(1, 4), 0);
        page.tells("Undoable.");
        Unchanged.undoable("hold", Benches::three, y -> y.hold(0));
        Unchanged.undoable("hold of a held one", Benches::three, y -> y.hold(2));
        page.tells("`number`: its number");
        page.tells("Throws `IndexOutOfBoundsException` if there is no such metronome");
        refusedNumbers("hold", (y, number) -> y.hold(number));
    }

    private static void take() {
        Page page = Page.of("Promise 6:");
        page.tells("Takes the last metronome away.");
        page.tells("Returns how many there are then.");
        BoardMetronomes x = Benches.six();
        for (int left = 5; left >= 0; left--) {
            Check.due("take", x.take(), left);
            Check.due("metronomes", x.count(0), left);
            if (left > 0) {
                Check.due("the first one stays", x.arm(0, 0), 100);
            }
        }
        page.tells("Undoable.");
        Unchanged.undoable("take", Benches::three, BoardMetronomes::take);
        Unchanged.undoable("take of six", Benches::six, BoardMetronomes::take);
        page.tells("Throws `IllegalStateException` if there is none");
        Unchanged.refused("take of none", STATE, BoardMetronomes::new, BoardMetronomes::take);
        Unchanged.refused("take behind the last one", STATE, () -> {
            BoardMetronomes y = Benches.three();
            y.take();
            y.take();
            y.take();
            return y;
        }, BoardMetronomes::take);
    }

    private static void run() {
        Page page = Page.of("Promise 7:");
        page.tells("Lets steps go by.");
        page.tells("`steps`: 1 to 500");
        BoardMetronomes x = Benches.unpulled(Benches.arm(40, 0, 9));
        x.run(1);
        Check.due("one step", x.arm(0, 1), 40);
        Check.due("steps", x.count(2), 1);
        x.run(500);
        Check.due("501 steps: 20040 less 5 rounds", x.arm(0, 1), 2040);
        Check.due("steps", x.count(2), 501);
        page.tells("Returns how many ticks there are in them.");
        BoardMetronomes y = Benches.unpulled(Benches.arm(40, 3560, 9), Benches.arm(72, 3528, 9),
            Benches.arm(72, 3456, 9), Benches.arm(40, 3560, 9, 1), Benches.arm(40, 3560, 0));
        Check.due("both at once", y.run(1), 2);
        Check.due("one", y.run(1), 1);
        Check.due("none", y.run(40), 0);
        Check.due("50 a round, 90 a round", y.run(500), 6 + 8 + 8);
        Check.due("no metronome", new BoardMetronomes().run(500), 0);
        page.tells("Undoable, as one call.");
        Unchanged.undoable("run(1)", Benches::three, z -> z.run(1));
        Unchanged.undoable("run(500)", Benches::three, z -> z.run(500));
    }

    private static void runLimits() {
        Page page = Page.of("Promise 7:");
        page.tells("Throws `IllegalArgumentException` if steps is out of range");
        int[] wrong = {0, 501, -1, LEAST, MOST};
        for (int steps : wrong) {
            Unchanged.refused("run(" + steps + ")", ARGUMENT, Benches::three, x -> x.run(steps));
        }
        page.tells("Throws `IllegalStateException` if there would be more than 99999 steps");
        BoardMetronomes x = Benches.behind(99499);
        x.run(500);
        Check.due("500 more", x.count(2), 99999);
        BoardMetronomes y = Benches.behind(99998);
        y.run(1);
        Check.due("1 more", y.count(2), 99999);
        y.undo();
        Check.due("undo goes back to where one more may go by", y.count(2), 99998);
        y.run(1);
        Check.due("1 more again", y.count(2), 99999);
        Unchanged.refused("run(500) behind 99500", STATE, () -> Benches.behind(99500), z -> z.run(500));
        Unchanged.refused("run(2) behind 99998", STATE, () -> Benches.behind(99998), z -> z.run(2));
        Unchanged.refused("run(1) behind 99999", STATE, () -> Benches.behind(99999), z -> z.run(1));
    }

    private static void stop() {
        Page page = Page.of("Promise 8:");
        page.tells("Stops the board: a and b are 0 then.");
        page.tells("Returns the size of a, and that of b, together, as they were.");
        int[][] rows = {{900, 1000}, {2700, 1000}, {450, 1500}, {2000, 395 + 950}, {3150, 1500}, {1350, 1500}};
        for (int[] row : rows) {
            BoardMetronomes x = Benches.pulled(Benches.arm(40, row[0], 9));
            x.run(1);
            int phase = x.arm(0, 1);
            Check.due("stop behind a step from " + row[0], x.stop(), row[1]);
            Check.due("a", x.count(4), 1000);
            Check.due("b", x.count(5), 1000);
            Check.due("the metronome stays where it is", x.arm(0, 1), phase);
            Check.due("the steps stay", x.count(2), 1);
            Check.due("stop at rest", x.stop(), 0);
        }
        Check.due("stop of a new board", new BoardMetronomes().stop(), 0);
        page.tells("Undoable.");
        Unchanged.undoable("stop", Benches::three, BoardMetronomes::stop);
    }

    private static void set() {
        Page page = Page.of("Promise 9:");
        page.tells("Changes a setting.");
        page.tells("Returns the previous value.");
        page.tells("`setting`: 0 to 2");
        page.tells("`value`: the new value");
        int[] first = {50, 10, 50};
        int[] highest = {95, 99, 900};
        for (int setting = 0; setting <= 2; setting++) {
            BoardMetronomes x = new BoardMetronomes();
            Check.due("set(" + setting + ")", x.set(setting, highest[setting]), first[setting]);
            Check.due("set(" + setting + ")", x.set(setting, 0), highest[setting]);
            for (int other = 0; other <= 2; other++) {
                Check.due("setting(" + other + ")", x.setting(other), other == setting ? 0 : first[other]);
            }
        }
        page.tells("Undoable.");
        Unchanged.undoable("set(0, 0)", Benches::three, x -> x.set(0, 0));
        Unchanged.undoable("set(1, 99)", Benches::three, x -> x.set(1, 99));
        Unchanged.undoable("set(2, 900)", Benches::three, x -> x.set(2, 900));
        page.tells("Throws `IndexOutOfBoundsException` if there is no such setting");
        int[] wrong = {-1, 3, LEAST, MOST};
        for (int setting : wrong) {
            Unchanged.refused("set(" + setting + ", 5)", INDEX, Benches::three, x -> x.set(setting, 5));
        }
        page.tells("Throws `IllegalArgumentException` if value is out of range");
        for (int setting = 0; setting <= 2; setting++) {
            int s = setting;
            Unchanged.refused("set(" + s + ", -1)", ARGUMENT, Benches::three, x -> x.set(s, -1));
            Unchanged.refused("set(" + s + ", too much)", ARGUMENT, Benches::three, x -> x.set(s, highest[s] + 1));
        }
    }
}
