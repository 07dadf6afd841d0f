/** The sentences of the promises 21 to 27. */
final class ForecastsSentences {
    private static final Class<?> ARGUMENT = Unchanged.ARGUMENT;
    private static final Class<?> INDEX = Unchanged.INDEX;
    private static final int NONE = BoardMetronomes.NONE;
    private static final int LEAST = Integer.MIN_VALUE;
    private static final int MOST = Integer.MAX_VALUE;

    private ForecastsSentences() {
    }

    static void all() {
        ifRun();
        ifRunWrong();
        untilStep();
        bestStrength();
        bestStrengthWrong();
        stopsIn();
        farthest();
        togetherShare();
        digest();
        digestOfEachPart();
        nothingIsChanged();
        behindTheLimit();
    }

    private static void dueIfRun(BoardMetronomes x, int steps, int strength, int... want) {
        for (int what = 0; what < want.length; what++) {
            String call = "ifRun(" + steps + ", " + strength + ", " + what + ")";
            Check.due(call, x.ifRun(steps, strength, what), want[what]);
        }
    }

    /**
     * By hand, without pulls: 0 ticks every 50 steps from the first on, 1 in the first step and never
     * again, 2 in the second one and then every 50 steps. With them, as TermsSentences tells: 3145, 3235.
     */
    private static void ifRun() {
        Page page = Page.of("Promise 21:");
        page.tells("Tells what steps would bring, with another strength.");
        page.tells("`what`: 0: ticks in them; 1: the order then; 2: the greatest by which two that go are apart then; "
            + "3: those that go then; 4: in how many steps of them two or more tick at once");
        page.tells("Returns the number.");
        page.tells("`steps`: 1 to 500");
        page.tells("`strength`: 0 to 99");
        BoardMetronomes x = Benches.with(new BoardMetronomes(), Benches.arm(72, 3528, 999), Benches.arm(40, 3560, 1),
            Benches.arm(72, 3456, 11), Benches.arm(40, 1800, 9, 1));
        x.set(1, 99);
        dueIfRun(x, 1, 0, 2, orderOf(0, 3528), 72, 2, 1);
        dueIfRun(x, 2, 0, 3, orderOf(72, 0), 72, 2, 1);
        dueIfRun(x, 51, 0, 4, orderOf(0, 3528), 72, 2, 1);
        dueIfRun(x, 500, 0, 1 + 10 + 10, orderOf(3528, 3456), 72, 2, 1);
        BoardMetronomes y = Benches.pulled(Benches.arm(40, 0, 9), Benches.arm(40, 2700, 9));
        y.set(1, 0);
        dueIfRun(y, 1, 99, 0, orderOf(3145, 3235), 90, 2, 0);
        dueIfRun(y, 1, 0, 0, orderOf(40, 2740), 900, 2, 0);
        BoardMetronomes z = Benches.unpulled(Benches.arm(40, 3560, 1), Benches.arm(40, 3560, 1),
            Benches.arm(40, 3520, 9));
        z.run(1);
        dueIfRun(z, 1, 0, 1, 1000, 0, 1, 0);
        dueIfRun(z, 2, 0, 1, orderOf(40), 0, 1, 0);
        dueIfRun(new BoardMetronomes(), 500, 99, 0, 0, 0, 0, 0);
        Check.due("the strength stays", z.setting(1), 0);
    }

    /** The order that a board tells whose metronomes have these phases and go. */
    private static int orderOf(int... phases) {
        BoardMetronomes x = new BoardMetronomes();
        for (int phase : phases) {
            x.metronome(40, phase, 1);
        }
        return x.count(6);
    }

    private static void ifRunWrong() {
        Page.of("Promise 21:").tells("Throws `IllegalArgumentException` if an argument is out of range");
        int[][] wrong = {{0, 0, 0}, {501, 0, 0}, {-1, 0, 0}, {LEAST, 0, 0}, {MOST, 0, 0}, {1, -1, 0}, {1, 100, 0},
            {1, LEAST, 0}, {1, MOST, 0}, {1, 0, -1}, {1, 0, 5}, {1, 0, LEAST}, {1, 0, MOST}, {0, -1, 5}};
        for (int[] w : wrong) {
            Unchanged.refused("ifRun(" + w[0] + ", " + w[1] + ", " + w[2] + ")", ARGUMENT, Benches::three,
                x -> x.ifRun(w[0], w[1], w[2]));
        }
    }

    private static void dueUntil(String when, int want, int nearness, int[]... rows) {
        BoardMetronomes x = Benches.unpulled(rows);
        x.set(2, nearness);
        Check.due("untilStep, " + when, x.untilStep(), want);
    }

    /** Without pulls: a beat of 41 comes nearer to one of 40 by 1 a step, and gets away from it then. */
    private static void untilStep() {
        Page page = Page.of("Promise 22:");
        page.tells("Tells when they fall into step.");
        page.tells("Returns in how many steps, 0 to 500, they are in step for the first time; "
            + "NONE if not within these.");
        int[] slow = Benches.arm(40, 0, 999);
        dueUntil("they are", 0, 50, slow, Benches.arm(41, 3550, 999));
        dueUntil("1 step", 1, 50, slow, Benches.arm(41, 3549, 999));
        dueUntil("500 steps", 500, 50, slow, Benches.arm(41, 3050, 999));
        dueUntil("501 steps", NONE, 50, slow, Benches.arm(41, 3049, 999));
        dueUntil("500 steps, 0 apart", 500, 0, slow, Benches.arm(41, 3100, 999));
        dueUntil("501 steps, 0 apart", NONE, 0, slow, Benches.arm(41, 3099, 999));
        dueUntil("the first time of many", 2, 0, Benches.arm(50, 0, 999), Benches.arm(150, 3400, 999));
        dueUntil("none", NONE, 900);
        dueUntil("one", NONE, 900, slow);
        dueUntil("one goes", NONE, 900, slow, Benches.arm(40, 0, 0), Benches.arm(40, 0, 9, 1));
        dueUntil("always as far", NONE, 50, slow, Benches.arm(40, 51, 999));
        dueUntil("a third one runs down", 3, 50, slow, Benches.arm(40, 0, 999), Benches.arm(200, 3100, 1));
        dueUntil("only one is left then", NONE, 50, slow, Benches.arm(200, 3100, 1));
    }

    private static void bestStrength() {
        Page page = Page.of("Promise 23:");
        page.tells("Finds the best strength.");
        page.tells("`steps`: 1 to 300");
        page.tells("Returns of the strengths 0, 5, 10 and so on to 95 the one with the greatest order behind so many "
            + "steps, of several the lowest one.");
        Check.due("all orders are 0", new BoardMetronomes().bestStrength(1), 0);
        Check.due("all orders are 0, 300 steps", new BoardMetronomes().bestStrength(300), 0);
        BoardMetronomes x = Benches.with(new BoardMetronomes(), Benches.arm(100, 2100, 9), Benches.arm(100, 1400, 9),
            Benches.arm(101, 2200, 9));
        Check.due("70 and 75 are as good", x.ifRun(2, 75, 1), x.ifRun(2, 70, 1));
        Check.dueTrue("73 is better", x.ifRun(2, 73, 1) > x.ifRun(2, 70, 1));
        Check.due("the lowest of several, by fives", x.bestStrength(2), 70);
        BoardMetronomes y = Benches.with(new BoardMetronomes(), Benches.arm(102, 300, 9), Benches.arm(101, 2400, 9));
        Check.dueTrue("99 is better than 95", y.ifRun(2, 99, 1) > y.ifRun(2, 95, 1));
        Check.due("95 at most", y.bestStrength(2), 95);
        y.set(1, 99);
        Check.due("whatever setting 1 is", y.bestStrength(2), 95);
        int[] steps = {1, 2, 150, 299, 300};
        for (int s : steps) {
            BoardMetronomes z = Benches.six();
            int best = z.bestStrength(s);
            for (int strength = 0; strength <= 95; strength += 5) {
                int more = z.ifRun(s, best, 1) - z.ifRun(s, strength, 1);
                Check.dueTrue(best + " is better than " + strength, strength < best ? more > 0 : more >= 0);
            }
            Check.due("by fives", best % 5, 0);
        }
    }

    private static void bestStrengthWrong() {
        Page.of("Promise 23:").tells("Throws `IllegalArgumentException` if steps is out of range");
        int[] wrong = {0, 301, 500, -1, LEAST, MOST};
        for (int steps : wrong) {
            Unchanged.refused("bestStrength(" + steps + ")", ARGUMENT, Benches::three, x -> x.bestStrength(steps));
        }
    }

    private static void stopsIn() {
        Page page = Page.of("Promise 24:");
        page.tells("Tells when a metronome stops.");
        page.tells("Returns in how many steps, 0 to 500, it does not go for the first time; NONE if not within these.");
        page.tells("`number`: its number");
        int[][] rows = {{40, 0, 0, 0}, {40, 3560, 1, 1}, {40, 3559, 1, 2}, {72, 0, 10, 500}, {72, 3599, 11, NONE},
            {72, 72, 10, 499}, {208, 0, 29, NONE}, {208, 0, 28, 485}, {40, 0, 999, NONE}};
        for (int[] row : rows) {
            BoardMetronomes x = Benches.unpulled(Benches.arm(40, 0, 5), Benches.arm(row[0], row[1], row[2]));
            Check.due("stopsIn, " + row[0] + "@" + row[1] + "*" + row[2], x.stopsIn(1), row[3]);
            x.hold(1);
            Check.due("held", x.stopsIn(1), 0);
        }
        BoardMetronomes y = Benches.unpulled(Benches.arm(72, 3599, 11), Benches.arm(40, 3560, 1));
        Check.due("501 steps", y.stopsIn(0), NONE);
        y.run(1);
        Check.due("500 steps", y.stopsIn(0), 500);
        y.run(1);
        Check.due("499 steps", y.stopsIn(0), 499);
        Check.due("it has stopped", y.stopsIn(1), 0);
        page.tells("Throws `IndexOutOfBoundsException` if there is no such metronome");
        int[] wrong = {-1, 3, 6, LEAST, MOST};
        for (int number : wrong) {
            Unchanged.refused("stopsIn(" + number + ")", INDEX, Benches::three, x -> x.stopsIn(number));
        }
        Unchanged.refused("stopsIn(6) of six", INDEX, Benches::six, x -> x.stopsIn(6));
        Unchanged.refused("stopsIn(0) of none", INDEX, BoardMetronomes::new, x -> x.stopsIn(0));
    }

    private static void dueFarthest(String when, int former, int latter, int[]... rows) {
        BoardMetronomes x = Benches.with(new BoardMetronomes(), rows);
        Check.due("farthest(false), " + when, x.farthest(false), former);
        Check.due("farthest(true), " + when, x.farthest(true), latter);
    }

    private static void farthest() {
        Page page = Page.of("Promise 25:");
        page.tells("Finds the two that are farthest apart.");
        page.tells("`latter`: whether the latter one is told, otherwise the former one");
        page.tells("Returns the number, of the two of those that go that are apart most, of several the ones with the "
            + "lowest former, then the lowest latter number; NONE if fewer than two go.");
        int[] zero = Benches.arm(40, 0, 9);
        int[] half = Benches.arm(40, 1800, 9);
        int[] near = Benches.arm(40, 1799, 9);
        int[] held = Benches.arm(40, 1800, 9, 1);
        int[] down = Benches.arm(40, 1800, 0);
        dueFarthest("none", NONE, NONE);
        dueFarthest("one", NONE, NONE, zero);
        dueFarthest("one goes", NONE, NONE, held, zero, down);
        dueFarthest("none goes", NONE, NONE, held, down);
        dueFarthest("two at the same phase", 0, 1, zero, zero);
        dueFarthest("all at the same phase", 0, 1, zero, zero, zero);
        dueFarthest("the last two go", 4, 5, held, held, down, down, zero, zero);
        dueFarthest("the latter is farther", 0, 2, zero, near, half);
        dueFarthest("of several the lowest latter", 0, 1, zero, half, half);
        dueFarthest("of several the lowest former", 0, 2, zero, zero, half);
        dueFarthest("several, the lowest former goes first", 0, 5, zero, near, near, near, near, half);
        dueFarthest("1 and 3 before 2 and 3", 1, 3, near, half, half, zero);
        dueFarthest("round the end", 0, 1, Benches.arm(40, 3599, 9), Benches.arm(40, 1799, 9), zero);
    }

    private static void togetherShare() {
        Page page = Page.of("Promise 26:");
        page.tells("Returns how often they ticked together.");
        page.tells("Returns the steps so far in which two or more ticked at once, as a double, divided by the "
            + "steps so far; 0.0 without steps.");
        Check.dueShare("a new object", new BoardMetronomes().togetherShare(), 0.0);
        BoardMetronomes x = Benches.unpulled(Benches.arm(40, 3560, 9), Benches.arm(40, 3560, 9),
            Benches.arm(40, 3520, 9));
        Check.dueShare("without steps", x.togetherShare(), 0.0);
        x.run(1);
        Check.dueShare("1 of 1", x.togetherShare(), 1.0);
        x.run(1);
        Check.dueShare("one alone: 1 of 2", x.togetherShare(), 0.5);
        x.run(5);
        Check.dueShare("1 of 7", x.togetherShare(), 1.0 / 7.0);
        x.undo();
        x.undo();
        x.undo();
        Check.dueShare("without steps again", x.togetherShare(), 0.0);
        BoardMetronomes y = Benches.unpulled(Benches.arm(40, 3559, 9), Benches.arm(40, 3560, 9));
        y.run(500);
        Check.dueShare("0 of 500", y.togetherShare(), 0.0);
        BoardMetronomes z = Benches.behind(99900);
        int together = z.count(10);
        z.run(99);
        Check.dueShare("many of 99999", z.togetherShare(), (double) together / 99999.0);
        Check.dueTrue("some of 99999", together > 0);
    }

    private static void digest() {
        Page page = Page.of("Promise 27:");
        page.tells("Computes a hash of the whole state.");
        page.tells("Returns the hash.");
        page.tells("The hash starts at 2999. For each value v of the following list, in order, the hash becomes "
            + "31 * hash + v, in long arithmetic with overflow.");
        long byHand = 8737583513601007710L;
        Check.due("a new object, reckoned apart from this program", new BoardMetronomes().digest(), byHand);
        page.tells("The values are: count(0) to count(11); the settings 0 to 2; for each metronome its properties "
            + "0 to 8, and stopsIn; for each two metronomes, the former one lower, by the former and then the latter "
            + "one, apart; ifRun of 40 steps and the strength 20, with 0 to 4; untilStep; bestStrength of 50; "
            + "farthest, the former one first; the bits of togetherShare (as Double.doubleToLongBits); for each "
            + "slot 1 if it has a snapshot, otherwise 0; the length of the buffer and each of its character codes.");
        dueListed("three", Benches.three(), true, "m40@0;s");
        dueListed("six", Benches.six(), true, "m40@0;s");
        dueListed("behind 99999", Benches.behind(99999), false, "");
        BoardMetronomes full = Benches.six();
        full.clearBuffer();
        Check.type(full, Benches.SIXTY);
        dueListed("a full buffer", full, true, Benches.SIXTY);
        BoardMetronomes x = Benches.unpulled(Benches.arm(40, 3560, 9), Benches.arm(40, 3560, 9));
        for (int steps = 0; steps < 40; steps++) {
            dueListed("share 1 of " + steps, x, false, "");
            x.run(1);
        }
    }

    private static void dueListed(String when, BoardMetronomes x, boolean slots, String buffer) {
        Check.due("digest, " + when, x.digest(), ForecastsTest.listed(x, slots, slots, buffer));
    }

    /** The one slot or the other, the order of the signs: the digest is another one. */
    private static void digestOfEachPart() {
        java.util.TreeSet<Long> digests = new java.util.TreeSet<>();
        for (int variant = 0; variant < 12; variant++) {
            BoardMetronomes x = Benches.behind(3);
            if (variant % 4 % 2 == 1) {
                x.keep(0);
            }
            if (variant % 4 / 2 == 1) {
                x.keep(1);
            }
            Check.type(x, variant < 4 ? "" : variant < 8 ? "s1" : "1s");
            digests.add(x.digest());
            Check.due("digest of variant " + variant, x.digest(), ForecastsTest.listed(x, variant % 2 == 1,
                variant % 4 > 1, variant < 4 ? "" : variant < 8 ? "s1" : "1s"));
        }
        Check.due("each digest is another one", digests.size(), 12);
    }

    private static void nothingIsChanged() {
        Page.of("Exceptions").tells("what would be; nothing is changed, and the limit of steps does not matter.");
        for (int i = 0; i <= 4; i++) {
            int what = i;
            Unchanged.look("ifRun(500, 99, " + what + ")", Benches::six, x -> x.ifRun(500, 99, what));
        }
        Unchanged.look("untilStep", Benches::six, BoardMetronomes::untilStep);
        Unchanged.look("bestStrength(300)", Benches::six, x -> x.bestStrength(300));
        for (int i = 0; i < 6; i++) {
            int number = i;
            Unchanged.look("stopsIn(" + number + ")", Benches::six, x -> x.stopsIn(number));
        }
        Unchanged.look("farthest(false)", Benches::six, x -> x.farthest(false));
        Unchanged.look("farthest(true)", Benches::six, x -> x.farthest(true));
        Unchanged.look("togetherShare", Benches::six, BoardMetronomes::togetherShare);
        Unchanged.look("digest", Benches::six, BoardMetronomes::digest);
    }

    /** At the limit of steps they tell what they tell of the same metronomes far from it. */
    private static void behindTheLimit() {
        int[][] rows = {{72, 3528, 10}, {73, 3028, 999}};
        BoardMetronomes far = Benches.unpulled(rows);
        BoardMetronomes at = Benches.behind(99999);
        at.take();
        at.take();
        at.take();
        at.stop();
        Benches.with(at, rows);
        Check.due("steps", at.count(2), 99999);
        for (int what = 0; what <= 4; what++) {
            Check.due("ifRun(500, 0, " + what + ")", at.ifRun(500, 0, what), far.ifRun(500, 0, what));
            Check.due("ifRun(1, 99, " + what + ")", at.ifRun(1, 99, what), far.ifRun(1, 99, what));
        }
        Check.due("it ticks in 500 steps", Math.min(1, at.ifRun(500, 0, 0)), 1);
        Check.due("untilStep", at.untilStep(), 450);
        Check.due("stopsIn", at.stopsIn(0), 451);
        Check.due("bestStrength", at.bestStrength(300), far.bestStrength(300));
        Check.due("the steps stay", at.count(2), 99999);
    }
}
