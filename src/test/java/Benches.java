/** Objects that the tests of the sentences begin with. */
final class Benches {
    /** Sixty characters, twenty orders. */
    static final String SIXTY = "s1;s1;s1;s1;s1;s1;s1;s1;s1;s1;s1;s1;s1;s1;s1;s1;s1;s1;s1;s10";

    private Benches() {
    }

    /** Three metronomes, the last one held; a moving board; five saved states, both slots, half a text. */
    static BoardMetronomes three() {
        BoardMetronomes x = new BoardMetronomes();
        x.metronome(120, 3500, 900);
        x.metronome(121, 3550, 3);
        x.metronome(90, 800, 5);
        return withAllElse(x);
    }

    /** The same with six metronomes. */
    static BoardMetronomes six() {
        BoardMetronomes x = new BoardMetronomes();
        int[] phases = {3500, 3550, 800, 0, 1800, 2700};
        for (int i = 0; i < phases.length; i++) {
            x.metronome(120 + i, phases[i], 3 * i + 2);
        }
        return withAllElse(x);
    }

    private static BoardMetronomes withAllElse(BoardMetronomes x) {
        x.run(9);
        x.keep(0);
        x.set(2, 77);
        x.hold(2);
        x.run(60);
        x.weigh(0, 100);
        x.keep(1);
        Check.type(x, "m40@0;s");
        return withFiveStates(x);
    }

    /** Metronomes that are not pulled, from rows of beat, phase and spring; a row of four: held. */
    static BoardMetronomes unpulled(int[]... rows) {
        BoardMetronomes x = new BoardMetronomes();
        x.set(1, 0);
        return with(x, rows);
    }

    /** Metronomes that are pulled with the highest strength by a board of which nothing stays. */
    static BoardMetronomes pulled(int[]... rows) {
        BoardMetronomes x = new BoardMetronomes();
        x.set(0, 0);
        x.set(1, 99);
        return with(x, rows);
    }

    static BoardMetronomes with(BoardMetronomes x, int[]... rows) {
        for (int[] row : rows) {
            int number = x.metronome(row[0], row[1], row[2]);
            if (row.length > 3) {
                x.hold(number);
            }
        }
        return x;
    }

    /** A row of unpulled, pulled and with. */
    static int[] arm(int... row) {
        return row;
    }

    /** Three metronomes and so many steps, 1 to 99999; five saved states, and no slot. */
    static BoardMetronomes behind(int steps) {
        BoardMetronomes x = unpulled(arm(100, 3000, 999), arm(101, 0, 999), arm(208, 3599, 1, 1));
        for (int left = steps; left > 0; left -= 500) {
            x.run(Math.min(left, 500));
        }
        return withFiveStates(x);
    }

    /** At least five have been saved. */
    private static BoardMetronomes withFiveStates(BoardMetronomes x) {
        x.stop();
        x.undo();
        Check.due("saved states to begin with", x.count(11), 5);
        return x;
    }
}
