/** The sentences of the promises 17 to 20. */
final class LooksSentences {
    private static final Class<?> ARGUMENT = Unchanged.ARGUMENT;
    private static final Class<?> INDEX = Unchanged.INDEX;
    private static final int LEAST = Integer.MIN_VALUE;
    private static final int MOST = Integer.MAX_VALUE;

    private LooksSentences() {
    }

    static void all() {
        armProperties();
        armPull();
        armWrong();
        apart();
        countMetronomesAndSteps();
        countTicks();
        countBoard();
        countOrders();
        countInStep();
        countSavedStates();
        countWrong();
        setting();
        nothingIsChanged();
    }

    private static void dueArm(BoardMetronomes x, int what, int... want) {
        for (int number = 0; number < want.length; number++) {
            Check.due("arm(" + number + ", " + what + ")", x.arm(number, what), want[number]);
        }
    }

    private static void armProperties() {
        Page page = Page.of("Promise 17:");
        page.tells("Returns a property of a metronome.");
        page.tells("Returns the property.");
        page.tells("`number`: its number");
        page.tells("`what`: 0: its beat; 1: its phase; 2: its spring;");
        BoardMetronomes x = Benches.unpulled(Benches.arm(40, 3560, 1), Benches.arm(208, 3599, 999),
            Benches.arm(41, 0, 0), Benches.arm(42, 1800, 5, 1), Benches.arm(43, 2700, 0, 1), Benches.arm(44, 900, 7));
        dueArm(x, 0, 40, 208, 41, 42, 43, 44);
        dueArm(x, 1, 3560, 3599, 0, 1800, 2700, 900);
        dueArm(x, 2, 1, 999, 0, 5, 0, 7);
        page.tells("3: 1 if it is held, otherwise 0;");
        dueArm(x, 3, 0, 0, 0, 1, 1, 0);
        page.tells("4: 1 if it goes, otherwise 0;");
        dueArm(x, 4, 1, 1, 0, 0, 0, 1);
        page.tells("6: the swing of its phase, plus 1000;");
        dueArm(x, 6, 1000 - 86, 1000 - 2, 1000, 1000, 0, 2000);
        page.tells("7: the turn of its phase, plus 1000;");
        dueArm(x, 7, 1000 + 998, 1000 + 999, 2000, 0, 1000, 1000);
        page.tells("5: its ticks so far;");
        dueArm(x, 5, 0, 0, 0, 0, 0, 0);
        x.run(1);
        dueArm(x, 5, 1, 1, 0, 0, 0, 0);
        dueArm(x, 4, 0, 1, 0, 0, 0, 1);
        x.wind(0, 9);
        x.run(90);
        dueArm(x, 5, 2, 6, 0, 0, 0, 1);
    }

    /** By hand: a = 500 and b = 0 behind a step of 900; the next a would be another one. */
    private static void armPull() {
        Page.of("Promise 17:").tells("8: the pull on it in the next step, as if it went and a and b were as they "
            + "are now, plus 1000");
        BoardMetronomes x = Benches.with(new BoardMetronomes(), Benches.arm(40, 900, 9), Benches.arm(40, 0, 0),
            Benches.arm(40, 1800, 9, 1), Benches.arm(40, 2700, 0, 1), Benches.arm(40, 450, 0),
            Benches.arm(40, 2250, 0));
        dueArm(x, 8, 1000, 1000, 1000, 1000, 1000, 1000);
        x.run(1);
        dueArm(x, 8, 1000 - 4, 1050, 950, 1000, 1037, 1000 - 37);
        x.set(0, 0);
        dueArm(x, 8, 1000 - 4, 1050, 950, 1000, 1037, 1000 - 37);
        x.set(1, 0);
        dueArm(x, 8, 1000, 1000, 1000, 1000, 1000, 1000);
        x.set(1, 99);
        dueArm(x, 8, 1000 - 42, 1495, 505, 1000, 1371, 1000 - 371);
        BoardMetronomes y = Benches.pulled(Benches.arm(40, 450, 9), Benches.arm(40, 3150, 0), Benches.arm(40, 1350, 0));
        y.run(1);
        dueArm(y, 1, 490);
        Check.due("the most: 99 * (750 * 750 + 750 * 750) / 100000 = 1113.75", y.arm(1, 8), 1000 + 1113);
        Check.due("the least", y.arm(2, 8), 1000 - 1113);
    }

    private static void armWrong() {
        Page page = Page.of("Promise 17:");
        page.tells("Throws `IndexOutOfBoundsException` if there is no such metronome");
        int[] numbers = {-1, 3, 5, 6, LEAST, MOST};
        for (int number : numbers) {
            Unchanged.refused("arm(" + number + ", 0)", INDEX, Benches::three, x -> x.arm(number, 0));
            Unchanged.refused("arm(" + number + ", 8)", INDEX, Benches::three, x -> x.arm(number, 8));
        }
        Unchanged.refused("arm(6, 0) of six", INDEX, Benches::six, x -> x.arm(6, 0));
        Unchanged.refused("arm(0, 0) of none", INDEX, BoardMetronomes::new, x -> x.arm(0, 0));
        page.tells("Throws `IllegalArgumentException` if what is not 0 to 8");
        int[] wrong = {-1, 9, LEAST, MOST};
        for (int what : wrong) {
            Unchanged.refused("arm(0, " + what + ")", ARGUMENT, Benches::three, x -> x.arm(0, what));
        }
    }

    private static void apart() {
        Page page = Page.of("Promise 18:");
        page.tells("Tells by how much two metronomes are apart (going or not).");
        page.tells("`one`: the number of a metronome");
        page.tells("`other`: the number of another one");
        page.tells("Returns 0 to 1800.");
        BoardMetronomes x = Benches.with(new BoardMetronomes(), Benches.arm(40, 0, 9), Benches.arm(40, 0, 0),
            Benches.arm(40, 1800, 9, 1), Benches.arm(40, 3599, 0, 1), Benches.arm(40, 1801, 9));
        int[][] want = {{0, 1, 0}, {0, 2, 1800}, {0, 3, 1}, {0, 4, 1799}, {1, 2, 1800}, {1, 3, 1}, {1, 4, 1799},
            {2, 3, 1799}, {2, 4, 1}, {3, 4, 1798}};
        for (int[] row : want) {
            Check.due("apart(" + row[0] + ", " + row[1] + ")", x.apart(row[0], row[1]), row[2]);
            Check.due("apart(" + row[1] + ", " + row[0] + ")", x.apart(row[1], row[0]), row[2]);
        }
        page.tells("Throws `IndexOutOfBoundsException` if there is no such metronome");
        int[] wrong = {-1, 3, 6, LEAST, MOST};
        for (int number : wrong) {
            Unchanged.refused("apart(" + number + ", 0)", INDEX, Benches::three, y -> y.apart(number, 0));
            Unchanged.refused("apart(0, " + number + ")", INDEX, Benches::three, y -> y.apart(0, number));
        }
        Unchanged.refused("apart(5, 6) of six", INDEX, Benches::six, y -> y.apart(5, 6));
        Unchanged.refused("apart(0, 1) of none", INDEX, BoardMetronomes::new, y -> y.apart(0, 1));
        page.tells("Throws `IllegalArgumentException` if both are the same");
        for (int number = 0; number < 6; number++) {
            int same = number;
            Unchanged.refused("apart of " + same + " and " + same, ARGUMENT, Benches::six, y -> y.apart(same, same));
        }
    }

    private static void dueCount(String when, BoardMetronomes x, int what, int want) {
        Check.due("count(" + what + "), " + when, x.count(what), want);
    }

    private static void countMetronomesAndSteps() {
        Page page = Page.of("Promise 19:");
        page.tells("Returns a number.");
        page.tells("Returns the number.");
        page.tells("`what`: 0: metronomes;");
        dueCount("none", new BoardMetronomes(), 0, 0);
        dueCount("six", Benches.six(), 0, 6);
        page.tells("1: those that go;");
        dueCount("none", new BoardMetronomes(), 1, 0);
        BoardMetronomes x = Benches.unpulled(Benches.arm(40, 3560, 1), Benches.arm(40, 0, 0), Benches.arm(40, 0, 9, 1),
            Benches.arm(40, 0, 9));
        dueCount("two of four", x, 1, 2);
        x.run(1);
        dueCount("one has run down", x, 1, 1);
        page.tells("2: the steps so far;");
        dueCount("none", new BoardMetronomes(), 2, 0);
        dueCount("one", x, 2, 1);
        dueCount("the most", Benches.behind(99999), 2, 99999);
    }

    private static void countTicks() {
        Page page = Page.of("Promise 19:");
        BoardMetronomes x = Benches.unpulled(Benches.arm(40, 3560, 9), Benches.arm(72, 3528, 9),
            Benches.arm(72, 3456, 9));
        page.tells("3: all ticks so far, also of metronomes that were taken away;");
        page.tells("10: steps so far in which two or more ticked at once;");
        dueCount("none", x, 3, 0);
        dueCount("none", x, 10, 0);
        x.run(1);
        dueCount("two at once", x, 3, 2);
        dueCount("two at once", x, 10, 1);
        x.run(1);
        dueCount("one alone", x, 3, 3);
        dueCount("one alone", x, 10, 1);
        x.take();
        x.take();
        dueCount("two taken away", x, 3, 3);
        dueCount("two taken away", x, 10, 1);
        x.take();
        x.run(5);
        dueCount("all taken away", x, 3, 3);
        dueCount("all taken away", x, 10, 1);
        BoardMetronomes y = new BoardMetronomes();
        for (int i = 0; i < 6; i++) {
            y.metronome(40, 3560, 9);
        }
        y.run(1);
        dueCount("six at once", y, 3, 6);
        dueCount("six at once are one step", y, 10, 1);
    }

    private static void countBoard() {
        Page page = Page.of("Promise 19:");
        page.tells("4: a, plus 1000;");
        page.tells("5: b, plus 1000;");
        int[][] rows = {{900, 2000, 1000}, {2700, 0, 1000}, {0, 1000, 2000}, {1800, 1000, 0}, {2000, 605, 50}};
        for (int[] row : rows) {
            BoardMetronomes x = Benches.pulled(Benches.arm(40, row[0], 9));
            dueCount("at rest", x, 4, 1000);
            dueCount("at rest", x, 5, 1000);
            x.run(1);
            dueCount("behind " + row[0], x, 4, row[1]);
            dueCount("behind " + row[0], x, 5, row[2]);
        }
    }

    private static void countOrders() {
        Page page = Page.of("Promise 19:");
        page.tells("6: the order;");
        page.tells("7: the order, told in another way: by the sum, over all two of those that go (each also with "
            + "itself, and each two both ways), of the products of their swings and of their turns, divided by "
            + "(1000 n n);");
        int[] phases = {0, 300, 450, 1350, 1801, 2250};
        for (int going = 0; going < 64; going++) {
            BoardMetronomes x = new BoardMetronomes();
            long sum = 0;
            for (int i = 0; i < 6; i++) {
                x.metronome(40, phases[i], going >> i & 1);
                for (int j = 0; j <= i; j++) {
                    int times = (going >> i & 1) * (going >> j & 1) * (i == j ? 1 : 2);
                    sum += times * (productOf(x, i, j, 6) + productOf(x, i, j, 7));
                }
            }
            int n = Integer.bitCount(going);
            dueCount("those that go: " + going, x, 7, n == 0 ? 0 : (int) (sum / (1000 * n * n)));
            dueCount("those that go: " + going, x, 6, x.count(7));
        }
        dueCount("no metronome", new BoardMetronomes(), 6, 0);
        dueCount("no metronome", new BoardMetronomes(), 7, 0);
    }

    /** Of the swings of two metronomes (6), or of their turns (7). */
    private static long productOf(BoardMetronomes x, int one, int other, int what) {
        return (x.arm(one, what) - 1000L) * (x.arm(other, what) - 1000L);
    }

    private static void countInStep() {
        Page page = Page.of("Promise 19:");
        page.tells("8: 1 if they are in step, otherwise 0;");
        page.tells("9: the greatest by which two of those that go are apart, 0 without two;");
        BoardMetronomes x = new BoardMetronomes();
        dueCount("none", x, 8, 0);
        dueCount("none", x, 9, 0);
        x.metronome(40, 3590, 9);
        dueCount("one", x, 8, 0);
        dueCount("one", x, 9, 0);
        x.metronome(40, 40, 9);
        dueCount("two, 50 apart", x, 8, 1);
        dueCount("two, 50 apart", x, 9, 50);
        x.metronome(40, 41, 9);
        dueCount("three, 51 apart", x, 8, 0);
        dueCount("three, 51 apart", x, 9, 51);
        x.metronome(40, 1790, 9);
        dueCount("four", x, 9, 1800);
        x.hold(3);
        x.wind(2, 0);
        dueCount("two of four go", x, 8, 1);
        dueCount("two of four go", x, 9, 50);
        x.hold(0);
        dueCount("one of four goes", x, 8, 0);
        dueCount("one of four goes", x, 9, 0);
    }

    private static void countSavedStates() {
        Page.of("Promise 19:").tells("11: saved states");
        BoardMetronomes x = new BoardMetronomes();
        for (int saved = 0; saved <= 9; saved++) {
            dueCount("behind " + saved + " calls", x, 11, Math.min(6, saved));
            x.stop();
        }
        x.undo();
        dueCount("behind undo", x, 11, 5);
        x.append('s');
        x.keep(0);
        x.clearBuffer();
        Check.outcome(() -> x.run(0));
        Check.outcome(() -> x.take());
        dueCount("behind calls that save none", x, 11, 5);
    }

    private static void countWrong() {
        Page.of("Promise 19:").tells("Throws `IllegalArgumentException` if what is not 0 to 11");
        int[] wrong = {-1, 12, LEAST, MOST};
        for (int what : wrong) {
            Unchanged.refused("count(" + what + ")", ARGUMENT, Benches::three, x -> x.count(what));
        }
    }

    private static void setting() {
        Page page = Page.of("Promise 20:");
        page.tells("Returns a setting.");
        page.tells("Returns its value.");
        page.tells("`setting`: 0 to 2");
        BoardMetronomes x = new BoardMetronomes();
        int[][] values = {{50, 10, 50}, {0, 0, 0}, {95, 99, 900}, {1, 2, 3}};
        for (int[] row : values) {
            for (int setting = 0; setting <= 2; setting++) {
                x.set(setting, row[setting]);
            }
            for (int setting = 0; setting <= 2; setting++) {
                Check.due("setting(" + setting + ")", x.setting(setting), row[setting]);
            }
        }
        page.tells("Throws `IndexOutOfBoundsException` if there is no such setting");
        int[] wrong = {-1, 3, LEAST, MOST};
        for (int setting : wrong) {
            Unchanged.refused("setting(" + setting + ")", INDEX, Benches::three, y -> y.setting(setting));
        }
    }

    private static void nothingIsChanged() {
        Page.of("Exceptions").tells("looks; nothing is changed.");
        for (int i = 0; i <= 11; i++) {
            int what = i;
            Unchanged.look("count(" + what + ")", Benches::six, x -> x.count(what));
            Unchanged.look("arm(" + what % 6 + ", " + what % 9 + ")", Benches::six, x -> x.arm(what % 6, what % 9));
        }
        Unchanged.look("apart(0, 5)", Benches::six, x -> x.apart(0, 5));
        Unchanged.look("setting(1)", Benches::six, x -> x.setting(1));
    }
}
