/** The sentences of "Terms", "Settings", "Input text", "Snapshots, undo" and "Exceptions". */
final class TermsSentences {
    private static final Class<?> ARGUMENT = Unchanged.ARGUMENT;
    private static final Class<?> STATE = Unchanged.STATE;
    private static final Class<?> INDEX = Unchanged.INDEX;

    private TermsSentences() {
    }

    static void all() {
        manyCalls();
        divisions();
        arms();
        swingsAndTurns();
        means();
        board();
        pulls();
        ends();
        springs();
        distances();
        inStep();
        order();
        settings();
        buffer();
        orders();
        numbers();
        errors();
        snapshots();
        savedStates();
        exceptions();
        exceptionsInOrder();
    }

    private static void manyCalls() {
        Page.of("What it is").tells("An object is used for at most 512 calls after it has been made");
        BoardMetronomes x = new BoardMetronomes();
        x.metronome(41, 0, 0);
        for (int call = 2; call <= 510; call++) {
            Check.due("weigh as call " + call, x.weigh(0, 40 + call % 2), 40 + (call - 1) % 2);
        }
        Check.due("undo as call 511", x.undo(), 5);
        Check.due("arm as call 512", x.arm(0, 0), 41);
    }

    private static void dueBoard(String when, BoardMetronomes x, int a, int b) {
        Check.due("a, " + when, x.count(4), 1000 + a);
        Check.due("b, " + when, x.count(5), 1000 + b);
    }

    /** By hand: swing(2000) = -395.06, turn(2000) = -950.6; swing(1801) = -2.2, turn(1801) = -999.998. */
    private static void divisions() {
        Page page = Page.of("Terms");
        page.tells("Divisions are cut towards 0, where it is not told otherwise.");
        BoardMetronomes x = new BoardMetronomes();
        x.metronome(40, 2000, 9);
        Check.due("a swing below 0", x.arm(0, 6), 1000 - 395);
        Check.due("a turn below 0", x.arm(0, 7), 1000 - 950);
        x.run(1);
        dueBoard("-395 * 50 / 100 = -197.5, -950 * 50 / 100", x, -197, -475);
        x.hold(0);
        x.metronome(40, 2000, 9);
        x.run(1);
        dueBoard("(-197 * 50 - 395 * 50) / 100, cut together; (-475 - 950) / 2", x, -296, -712);
        BoardMetronomes y = Benches.pulled(Benches.arm(40, 1801, 9), Benches.arm(40, 2000, 9));
        y.run(1);
        dueBoard("(-2 - 395) / 2 = -198.5, (-999 - 950) / 2 = -974.5", y, -198, -974);
        BoardMetronomes z = new BoardMetronomes();
        z.metronome(40, 900, 9);
        z.run(1);
        Check.due("a pull of 10 * 500 * -86 / 100000 = -4.3", z.arm(0, 8), 1000 - 4);
        page.tells("All numbers are integers, but for a share.");
        BoardMetronomes w = Benches.unpulled(Benches.arm(40, 3560, 9), Benches.arm(40, 3560, 9));
        w.run(3);
        Check.dueShare("a share is not cut", w.togetherShare(), 1.0 / 3.0);
    }

    private static void arms() {
        Page page = Page.of("Arms");
        page.tells("There are at most 6 metronomes, numbered from 0 in the order in which they came.");
        BoardMetronomes x = new BoardMetronomes();
        for (int i = 0; i < 6; i++) {
            Check.due("number", x.metronome(40 + i, i, i), i);
        }
        for (int i = 0; i < 6; i++) {
            Check.due("the beat of " + i, x.arm(i, 0), 40 + i);
        }
        Check.due("six", x.count(0), 6);
        Unchanged.refused("a seventh", STATE, Benches::six, y -> y.metronome(100, 0, 0));
        Check.type(x, "m40@0");
        Check.due("a seventh by play", x.play(), 0);
        page.tells("A metronome has a beat, 40 to 208; a phase, 0 to 3599; a spring, 0 to 999; and it is held or not.");
        BoardMetronomes y = Benches.with(new BoardMetronomes(), Benches.arm(40, 0, 0), Benches.arm(208, 3599, 999, 1));
        int[][] want = {{40, 0, 0, 0}, {208, 3599, 999, 1}};
        for (int what = 0; what <= 3; what++) {
            Check.due("the least", y.arm(0, what), want[0][what]);
            Check.due("the greatest", y.arm(1, what), want[1][what]);
        }
        page.tells("It goes if it is not held and its spring is above 0.");
        BoardMetronomes z = Benches.with(new BoardMetronomes(), Benches.arm(40, 0, 0), Benches.arm(40, 0, 1),
            Benches.arm(40, 0, 0, 1), Benches.arm(40, 0, 1, 1), Benches.arm(40, 0, 999));
        int[] goes = {0, 1, 0, 0, 1};
        for (int i = 0; i < goes.length; i++) {
            Check.due("whether " + i + " goes", z.arm(i, 4), goes[i]);
        }
        Check.due("those that go", z.count(1), 2);
    }

    /** Each phase; its neighbours at the ends, by hand: 1 * 1799 / 810 = 2.2, 899 * 901 / 810 = 999.998. */
    private static void swingsAndTurns() {
        Page page = Page.of("Arms");
        page.tells("The swing of a phase q is q times (1800 less q), divided by 810, if q is less than 1800; "
            + "otherwise it is that of q less 1800, with the sign less.");
        page.tells("The turn of a phase q is the swing of the rest of q and 900 together by 3600.");
        int[] swings = new int[3600];
        for (int q = 0; q < 1800; q++) {
            swings[q] = q * (1800 - q) / 810;
            swings[q + 1800] = -swings[q];
        }
        for (int q = 0; q < 3600; q++) {
            BoardMetronomes x = new BoardMetronomes();
            x.metronome(40, q, 0);
            Check.due("swing of " + q, x.arm(0, 6), 1000 + swings[q]);
            Check.due("turn of " + q, x.arm(0, 7), 1000 + swings[q < 2700 ? q + 900 : q - 2700]);
        }
        int[][] ends = {{0, 0, 1000}, {899, 999, 2}, {900, 1000, 0}, {901, 999, -2}, {1799, 2, -999}, {1800, 0, -1000},
            {1801, -2, -999}, {2699, -999, -2}, {2700, -1000, 0}, {2701, -999, 2}, {3599, -2, 999}};
        for (int[] end : ends) {
            BoardMetronomes x = new BoardMetronomes();
            x.metronome(40, end[0], 0);
            Check.due("swing of " + end[0], x.arm(0, 6), 1000 + end[1]);
            Check.due("turn of " + end[0], x.arm(0, 7), 1000 + end[2]);
        }
    }

    private static void means() {
        Page page = Page.of("The board");
        page.tells("The board has two numbers, a and b, at first 0.");
        dueBoard("at first", new BoardMetronomes(), 0, 0);
        page.tells("In a tick of time (a step) the following happens:");
        page.tells("Let A be the sum of the swings, and B that of the turns of all metronomes that go, "
            + "both sums divided by how many go (0 if none goes).");
        BoardMetronomes x = Benches.pulled(Benches.arm(40, 900, 9), Benches.arm(40, 0, 9), Benches.arm(40, 900, 9, 1),
            Benches.arm(40, 900, 0));
        x.run(1);
        dueBoard("two of four go: 1000 / 2 each", x, 500, 500);
        BoardMetronomes none = new BoardMetronomes();
        none.run(500);
        dueBoard("no metronome", none, 0, 0);
        BoardMetronomes y = new BoardMetronomes();
        y.metronome(40, 2000, 9);
        y.run(1);
        y.hold(0);
        y.run(1);
        dueBoard("none goes: -197 * 50 / 100 = -98.5, -475 * 50 / 100 = -237.5", y, -98, -237);
        y.hold(0);
        y.wind(0, 0);
        y.set(0, 95);
        y.run(1);
        dueBoard("run down: -98 * 95 / 100 = -93.1, -237 * 95 / 100 = -225.15", y, -93, -225);
        y.set(0, 0);
        y.run(1);
        dueBoard("none goes, and nothing stays", y, 0, 0);
    }

    /** By hand: swing(40) = 86.9, turn(40) = swing(940) = 998.02; a and b pull the metronome by 0. */
    private static void board() {
        Page.of("The board").tells("Then a becomes a times setting 0, and A times (100 less setting 0), "
            + "together divided by 100; b likewise with B.");
        int[][] rows = {{0, 0, 1000, 86, 998}, {50, 0, 500, 43, 749}, {95, 0, 50, 4, 97}};
        for (int[] row : rows) {
            BoardMetronomes x = new BoardMetronomes();
            x.set(0, row[0]);
            x.metronome(40, 0, 9);
            x.run(1);
            dueBoard("setting 0 is " + row[0], x, row[1], row[2]);
            x.run(1);
            dueBoard("setting 0 is " + row[0] + ", a second step", x, row[3], row[4]);
        }
        int[][] most = {{900, 1000, 0}, {2700, -1000, 0}, {0, 0, 1000}, {1800, 0, -1000}};
        for (int[] row : most) {
            BoardMetronomes x = Benches.pulled(Benches.arm(40, row[0], 9), Benches.arm(208, row[0], 9));
            x.run(1);
            dueBoard("the most that it is pushed", x, row[1], row[2]);
        }
    }

    /**
     * By hand: swing(600) = 888.9, turn(600) = swing(1500) = 555.6; A = (888 + 0) / 2, B = (555 + 1000) / 2;
     * 99 * (444 * 555 - 777 * 888) / 100000 = -439.1, 99 * 444 * 1000 / 100000 = 439.6.
     */
    private static void pulls() {
        Page page = Page.of("The board");
        page.tells("Each metronome that goes gets forward by its beat, and a pull: setting 1 times "
            + "(a times the turn of its phase, less b times the swing of it), divided by 100000.");
        page.tells("(All pulls are reckoned by a and b as they are then, and by its own phase ahead of this.)");
        BoardMetronomes x = Benches.pulled(Benches.arm(208, 600, 9), Benches.arm(40, 0, 9), Benches.arm(40, 7, 9, 1),
            Benches.arm(40, 8, 0));
        x.run(1);
        dueBoard("as it is then", x, 444, 777);
        Check.due("600 + 208 - 439", x.arm(0, 1), 369);
        Check.due("0 + 40 + 439", x.arm(1, 1), 479);
        Check.due("a held one stays where it is", x.arm(2, 1), 7);
        Check.due("one that has run down stays where it is", x.arm(3, 1), 8);
        BoardMetronomes z = Benches.pulled(Benches.arm(40, 310, 9), Benches.arm(40, 1480, 9));
        z.run(1);
        dueBoard("as it is then", z, 577, 4);
        Check.due("99 * (577 * 881 - 4 * 570) / 100000 = 500.996, 310 + 40 + 500", z.arm(0, 1), 850);
        BoardMetronomes y = Benches.unpulled(Benches.arm(208, 600, 9), Benches.arm(40, 0, 9));
        y.run(1);
        Check.due("strength 0: 600 + 208", y.arm(0, 1), 808);
        Check.due("strength 0: 0 + 40", y.arm(1, 1), 40);
    }

    private static void ends() {
        Page.of("The board").tells("Its phase becomes the phase and this together; if that is 3600 or more, "
            + "it is less by 3600 then, and the metronome ticks; if it is below 0, it is greater by 3600 then, "
            + "and does not tick.");
        int[][] rows = {{40, 3559, 3599, 0}, {40, 3560, 0, 1}, {40, 3561, 1, 1}, {208, 3391, 3599, 0},
            {208, 3392, 0, 1}, {208, 3599, 207, 1}, {40, 0, 40, 0}};
        for (int[] row : rows) {
            dueEnd("strength 0", Benches.unpulled(Benches.arm(row[0], row[1], 9)), row[2], row[3]);
        }
        endsByPulls();
    }

    /** By hand: with 2700 beside 0, a = -500 and b = 500, and the pull on 0 is strength * -5. */
    private static void endsByPulls() {
        int[][] rows = {{7, 40, 5}, {8, 40, 0}, {9, 46, 1}, {9, 45, 0}, {9, 44, 3599}, {9, 40, 3595}, {99, 40, 3145}};
        for (int[] row : rows) {
            BoardMetronomes x = Benches.pulled(Benches.arm(row[1], 0, 9), Benches.arm(40, 2700, 9));
            x.set(1, row[0]);
            dueEnd("at and below 0", x, row[2], 0);
        }
        dueEnd("99 * (302 * 950 + 475 * 395) / 100000 = 469.8, 3400 + 40 + 469",
            Benches.pulled(Benches.arm(40, 3400, 9), Benches.arm(40, 900, 9)), 309, 1);
        dueEnd("99 * (-511 * 999 + 499 * 22) / 100000 = -494.5, 3590 + 40 - 494",
            Benches.pulled(Benches.arm(40, 3590, 9), Benches.arm(40, 2700, 9)), 3136, 0);
    }

    /** The first metronome, with a spring of 9, behind a step in which no other one ticks. */
    private static void dueEnd(String how, BoardMetronomes x, int phase, int ticks) {
        Check.due("run(1), " + how, x.run(1), ticks);
        Check.due("phase, " + how, x.arm(0, 1), phase);
        Check.due("ticks, " + how, x.arm(0, 5), ticks);
        Check.due("spring, " + how, x.arm(0, 2), 9 - ticks);
    }

    private static void springs() {
        Page.of("The board").tells("A metronome that ticks has a spring that is 1 less.");
        BoardMetronomes x = Benches.unpulled(Benches.arm(40, 3560, 1), Benches.arm(40, 3560, 2),
            Benches.arm(40, 3560, 999), Benches.arm(40, 3559, 1), Benches.arm(40, 3560, 5, 1));
        int[] springs = {0, 1, 998, 1, 5};
        Check.due("run(1)", x.run(1), 3);
        for (int i = 0; i < springs.length; i++) {
            Check.due("spring of " + i, x.arm(i, 2), springs[i]);
        }
        x.run(1);
        Check.due("a spring that became 0 goes no more", x.arm(0, 1), 0);
        Check.due("a spring of 1 goes on", x.arm(1, 1), 40);
        Check.due("it ticks a step later", x.arm(3, 2), 0);
    }

    private static void distances() {
        Page.of("In step").tells("Two phases are apart by their difference, or 3600 less that, the lesser one of both "
            + "(0 to 1800).");
        int[][] rows = {{7, 7, 0}, {0, 1, 1}, {0, 3599, 1}, {0, 1799, 1799}, {0, 1800, 1800}, {0, 1801, 1799},
            {1799, 3599, 1800}, {1799, 3598, 1799}, {1798, 3599, 1799}};
        for (int[] row : rows) {
            BoardMetronomes x = Benches.unpulled(Benches.arm(40, row[0], 9), Benches.arm(40, row[1], 9));
            Check.due(row[0] + " and " + row[1], x.apart(0, 1), row[2]);
            Check.due(row[1] + " and " + row[0], x.apart(1, 0), row[2]);
            Check.due("the greatest", x.count(9), row[2]);
        }
    }

    private static void dueInStep(int want, int nearness, int... phases) {
        BoardMetronomes x = new BoardMetronomes();
        x.set(2, nearness);
        for (int phase : phases) {
            x.metronome(40, phase, 9);
        }
        Check.due("in step by " + nearness + ", " + phases.length + " metronomes", x.count(8), want);
        Check.due("untilStep is 0, or later", x.untilStep() == 0 ? 1 : 0, want);
    }

    private static void inStep() {
        Page.of("In step").tells("Metronomes are in step if each two of those that go are apart by setting 2 at most "
            + "(and at least two go).");
        dueInStep(0, 900);
        dueInStep(0, 900, 5);
        dueInStep(1, 0, 5, 5);
        dueInStep(0, 0, 5, 6);
        dueInStep(1, 50, 3590, 40);
        dueInStep(0, 50, 3590, 41);
        dueInStep(1, 900, 0, 900);
        dueInStep(0, 900, 0, 901);
        dueInStep(0, 899, 0, 900);
        dueInStep(0, 50, 0, 50, 100);
        dueInStep(0, 50, 50, 0, 3550);
        dueInStep(1, 100, 0, 50, 100);
        dueInStep(1, 0, 9, 9, 9, 9, 9, 9);
        dueInStep(0, 0, 9, 9, 9, 9, 9, 10);
        BoardMetronomes x = Benches.with(new BoardMetronomes(), Benches.arm(40, 0, 9), Benches.arm(40, 50, 9),
            Benches.arm(40, 1800, 9, 1), Benches.arm(40, 1800, 0));
        Check.due("those that do not go are far off", x.count(8), 1);
        x.hold(1);
        Check.due("one goes", x.count(8), 0);
    }

    private static void dueOrder(String when, BoardMetronomes x, int want) {
        Check.due("order, " + when, x.count(6), want);
        Check.due("order by pairs, " + when, x.count(7), want);
    }

    /** By hand: swing(1) = 2, turn(1) = 999, swing(450) = turn(450) = 750. */
    private static void order() {
        Page page = Page.of("In step");
        page.tells("The order is: let A and B be the sums (not divided) of the swings and the turns of all that go, "
            + "n how many they are: (A A and B B together) divided by (1000 n n);");
        BoardMetronomes x = Benches.with(new BoardMetronomes(), Benches.arm(40, 0, 9), Benches.arm(40, 1, 9),
            Benches.arm(40, 1800, 9, 1), Benches.arm(40, 1800, 0));
        dueOrder("(2 * 2 + 1999 * 1999) / 4000 = 999.0", x, 999);
        BoardMetronomes y = new BoardMetronomes();
        y.metronome(40, 0, 1);
        dueOrder("one: 1000 * 1000 / 1000", y, 1000);
        y.metronome(40, 1800, 1);
        dueOrder("two against each other", y, 0);
        BoardMetronomes z = new BoardMetronomes();
        for (int i = 0; i < 6; i++) {
            z.metronome(40, 2250, 1);
        }
        dueOrder("six: (4500 * 4500 + 4500 * 4500) / 36000", z, 1125);
        page.tells("0 if none goes.");
        dueOrder("no metronome", new BoardMetronomes(), 0);
        dueOrder("none goes", Benches.unpulled(Benches.arm(40, 0, 0), Benches.arm(40, 0, 9, 1)), 0);
    }

    private static void dueSetting(int setting, int first, int highest) {
        Check.due("at first", new BoardMetronomes().setting(setting), first);
        BoardMetronomes x = new BoardMetronomes();
        Check.due("set to the highest", x.set(setting, highest), first);
        Check.due("set to 0", x.set(setting, 0), highest);
        Check.due("set to 1", x.set(setting, 1), 0);
        int[] wrong = {-1, highest + 1, 1000, Integer.MIN_VALUE, Integer.MAX_VALUE};
        for (int value : wrong) {
            Unchanged.refused("set(" + setting + ", " + value + ")", ARGUMENT, Benches::three,
                y -> y.set(setting, value));
        }
    }

    private static void settings() {
        Page page = Page.of("Settings");
        page.tells("0: how much the board stays as it is, 0 to 95, at first 50;");
        dueSetting(0, 50, 95);
        page.tells("1: the strength, 0 to 99, at first 10;");
        dueSetting(1, 10, 99);
        page.tells("2: phases that are in step, 0 to 900, at first 50.");
        dueSetting(2, 50, 900);
    }

    private static BoardMetronomes typed(String text) {
        BoardMetronomes x = new BoardMetronomes();
        Check.type(x, text);
        return x;
    }

    private static void dueError(String text, int want) {
        Check.due("firstError of " + text, typed(text).firstError(), want);
    }

    private static void dueBench(String text, int orders) {
        dueError(text, text.length());
        Check.due("play of " + text, typed("m40@0;" + text).play(), orders + 1);
    }

    /** It has no syntax error, but there is more to come. */
    private static void dueBegin(String text) {
        dueError(text, text.length());
        Unchanged.refused("play of " + text, ARGUMENT, () -> typed(text), BoardMetronomes::play);
    }

    private static void dueNone(String text, int error) {
        dueError(text, error);
        Unchanged.refused("play of " + text, ARGUMENT, () -> typed(text), BoardMetronomes::play);
    }

    private static void buffer() {
        Page.of("Input text").tells("The buffer has at most 60 characters.");
        BoardMetronomes x = new BoardMetronomes();
        for (int length = 1; length <= 60; length++) {
            Check.due("append", x.append('~'), length);
        }
        Unchanged.refused("a 61st character", STATE, () -> typed(Benches.SIXTY), y -> y.append('0'));
    }

    private static void orders() {
        Page page = Page.of("Input text");
        page.tells("A bench as a text is one or more orders with \";\" between them:");
        dueBegin("");
        dueBench("h0", 1);
        dueBench("h0;h0", 2);
        dueBegin("h0;");
        dueNone(";", 0);
        dueNone(";h0", 0);
        dueNone("h0;;h0", 3);
        dueNone("h0h0", 2);
        dueNone("h0,h0", 2);
        page.tells("\"m\", a beat, 40 to 208, \"@\", a phase, 0 to 3599, and perhaps \"*\" and a spring, 1 to 999 "
            + "(without it 500) (a metronome);");
        BoardMetronomes x = typed("m40@0*1;m208@3599*999;m100@10");
        Check.due("three metronomes", x.play(), 3);
        int[][] want = {{40, 0, 1, 0}, {208, 3599, 999, 0}, {100, 10, 500, 0}};
        for (int number = 0; number < want.length; number++) {
            for (int what = 0; what <= 3; what++) {
                Check.due("arm(" + number + ", " + what + ")", x.arm(number, what), want[number][what]);
            }
        }
        page.tells("\"s\" and steps, 1 to 500 (they go by); or \"h\", the digit of a metronome, 0 to 5 "
            + "(it is held, or let go, if it is held).");
        BoardMetronomes y = Benches.six();
        y.clearBuffer();
        int steps = y.count(2);
        Check.type(y, "s1;s500;h2;h5;h0;h0");
        Check.due("steps and holds", y.play(), 6);
        Check.due("the steps have gone by", y.count(2) - steps, 501);
        Check.due("2 was held, and is let go", y.arm(2, 3), 0);
        Check.due("5 is held", y.arm(5, 3), 1);
        Check.due("0 is held, and let go", y.arm(0, 3), 0);
    }

    private static void numbers() {
        String[] benches = {"m40@0", "m208@0", "m99@9", "m100@3599", "m40@1000", "m40@0*1", "m40@0*999", "s1", "s500",
            "s499", "h0"};
        for (String text : benches) {
            dueBench(text, 1);
        }
        for (int digit = 1; digit <= 5; digit++) {
            dueError("h" + digit, 2);
        }
        String[] begins = {"m", "m1", "m2", "m20", "m4", "m10", "m40", "m40@", "m40@0*", "s", "h"};
        for (String text : begins) {
            dueBegin(text);
        }
        String[] wrong = {"m3", "m39", "m21", "m209", "m1000", "m208@3600", "m40@4000", "m40@10000", "m40@-", "m40@0*-",
            "m40@0*1000", "s501", "s600", "s1000", "s-", "h6", "h9", "h10", "m4@", "m20@", "m@", "m40@*", "m40@0*;",
            "s;", "h;", "m40;", "m40*", "s1*", "s1@", "h0*", "h0@", "m40@0@", "m40@0*1*", "M", "S", "H", "1", "@", "*"};
        int[] errors = {1, 1, 2, 3, 4, 8, 7, 8, 4, 6, 9, 3, 3, 4, 1, 1, 1, 2, 2, 3, 1, 4, 6, 1, 1, 3, 3, 2, 2, 2, 2, 5,
            7, 0, 0, 0, 0, 0, 0};
        Check.due("an index for each wrong text", errors.length, wrong.length);
        for (int i = 0; i < wrong.length; i++) {
            dueNone(wrong[i], errors[i]);
        }
        Page.of("Input text").tells("Numbers are without leading zeros.");
        String[] zeros = {"m0", "m040@0", "m40@00", "m40@01", "m40@0*0", "m40@0*01", "s0", "s01", "h00", "h01"};
        int[] places = {1, 1, 5, 5, 6, 6, 1, 1, 2, 2};
        for (int i = 0; i < zeros.length; i++) {
            dueNone(zeros[i], places[i]);
        }
        dueBench("m40@0*10", 1);
        dueBench("s10", 1);
        dueBench("m40@10", 1);
    }

    private static void errors() {
        Page.of("Input text").tells("The buffer is read from left to right; a character is a syntax error if no bench "
            + "as a text, of any length, begins with the characters before it and this character.");
        dueNone("s1;x;;y", 3);
        dueNone("xs1", 0);
        dueNone("s1;s0;s0", 4);
        String full = Benches.SIXTY.substring(0, 57);
        dueBegin(full + "m20");
        dueBegin(full + "s1;");
        dueBegin(Benches.SIXTY.substring(0, 54) + "m40@0*");
        dueNone(full + "m21", 59);
        dueNone(full + "1;;", 57);
    }

    private static BoardMetronomes twoThatTickTogether() {
        return Benches.with(new BoardMetronomes(), Benches.arm(100, 3500, 9), Benches.arm(101, 3500, 9));
    }

    private static void snapshots() {
        Page page = Page.of("Snapshots, undo");
        page.tells("There are two slots; a snapshot is all but the buffer, the slots and the saved states.");
        for (int slot = 0; slot <= 1; slot++) {
            BoardMetronomes x = twoThatTickTogether();
            x.run(3);
            x.keep(slot);
            long kept = x.digest();
            x.take();
            x.set(0, 0);
            x.set(1, 0);
            x.set(2, 0);
            x.run(90);
            Check.type(x, "abc");
            x.keep(1 - slot);
            x.goBack(slot);
            Check.due("the buffer stays", x.clearBuffer(), 3);
            Check.due("saved states go on", x.count(11), 6);
            Check.due("the other slot stays", x.goBack(1 - slot), 93);
            x.goBack(slot);
            dueCountedAsKept(x);
            BoardMetronomes y = twoThatTickTogether();
            y.run(3);
            y.keep(slot);
            Check.due("as it was kept", y.digest(), kept);
            long due = withoutStatesAndSlots(y, 1 - slot);
            Check.due("all that is kept is back", withoutStatesAndSlots(x, 1 - slot), due);
        }
        int[] wrong = {-1, 2, Integer.MIN_VALUE, Integer.MAX_VALUE};
        for (int slot : wrong) {
            Unchanged.refused("keep(" + slot + ")", ARGUMENT, Benches::three, x -> x.keep(slot));
            Unchanged.refused("goBack(" + slot + ")", ARGUMENT, Benches::three, x -> x.goBack(slot));
        }
    }

    /** The digest, when six states are saved and both slots are taken. */
    private static long withoutStatesAndSlots(BoardMetronomes x, int freeSlot) {
        x.keep(freeSlot);
        while (x.count(11) < 6) {
            x.set(2, x.setting(2));
        }
        return x.digest();
    }

    private static void dueCountedAsKept(BoardMetronomes x) {
        Check.due("steps", x.count(2), 3);
        Check.due("ticks", x.count(3), 2);
        Check.due("steps together", x.count(10), 1);
        Check.due("ticks of one", x.arm(1, 5), 1);
        Check.dueShare("share", x.togetherShare(), 1.0 / 3.0);
    }

    private static void savedStates() {
        Page page = Page.of("Snapshots, undo");
        page.tells("Each method that is marked \"undoable\" and does not throw an exception saves the state from "
            + "before it (also if it changes nothing): all, also what is counted so far, but the buffer, the slots and "
            + "the saved states.");
        Unchanged.Try[] nothing = {x -> x.weigh(0, x.arm(0, 0)), x -> x.wind(0, x.arm(0, 2)),
            x -> x.set(0, 50), x -> x.set(1, 10), x -> x.set(2, 77), x -> x.goBack(1)};
        for (int i = 0; i < nothing.length; i++) {
            Unchanged.undoable("a call that changes nothing, " + i, Benches::three, nothing[i]);
        }
        Unchanged.undoable("stop of a board at rest", BoardMetronomes::new, BoardMetronomes::stop);
        Unchanged.undoable("play of no order", () -> typed("h0"), BoardMetronomes::play);
        Unchanged.undoable("run of none", BoardMetronomes::new, x -> x.run(1));
        BoardMetronomes x = twoThatTickTogether();
        x.run(3);
        x.run(500);
        x.keep(0);
        Check.type(x, "abc");
        x.undo();
        dueCountedAsKept(x);
        Check.due("undo leaves the buffer", x.clearBuffer(), 3);
        Check.due("undo leaves the slot", x.goBack(0), 503);
        page.tells("At most 6 states are saved; the oldest one is dropped first.");
        BoardMetronomes y = new BoardMetronomes();
        for (int value = 1; value <= 20; value++) {
            y.set(2, value);
            Check.due("saved states", y.count(11), Math.min(6, value));
        }
        for (int left = 5; left >= 0; left--) {
            Check.due("undo", y.undo(), left);
            Check.due("the value then", y.setting(2), 14 + left);
        }
        Unchanged.refused("undo without a state", STATE, BoardMetronomes::new, BoardMetronomes::undo);
    }

    /** One call for each throws clause; the tests of each promise have all of them. */
    private static void exceptions() {
        Page page = Page.of("Exceptions");
        page.tells("A call that throws an exception changes nothing.");
        Unchanged.refused("metronome", ARGUMENT, Benches::three, x -> x.metronome(39, 0, 0));
        Unchanged.refused("metronome", STATE, Benches::six, x -> x.metronome(40, 0, 0));
        Unchanged.refused("take", STATE, () -> typed("s1"), BoardMetronomes::take);
        Unchanged.refused("run", STATE, () -> Benches.behind(99999), x -> x.run(1));
        Unchanged.refused("play", ARGUMENT, Benches::three, BoardMetronomes::play);
        Unchanged.refused("goBack", STATE, () -> Benches.behind(7), x -> x.goBack(1));
        page.tells("The constants: `NONE = -1`: There is nothing to return.");
        Check.due("NONE", BoardMetronomes.NONE, -1);
        page.tells("metronomes.");
        page.tells("texts, snapshots.");
    }

    private static void exceptionsInOrder() {
        Page.of("Exceptions").tells("If several exceptions apply, the one that is named first in the throws clause is "
            + "thrown.");
        Unchanged.refused("metronome(39, 0, 0) of six", ARGUMENT, Benches::six, x -> x.metronome(39, 0, 0));
        Unchanged.refused("metronome(40, 3600, 0) of six", ARGUMENT, Benches::six, x -> x.metronome(40, 3600, 0));
        Unchanged.refused("metronome(40, 0, 1000) of six", ARGUMENT, Benches::six, x -> x.metronome(40, 0, 1000));
        Unchanged.refused("weigh(3, 39) of three", INDEX, Benches::three, x -> x.weigh(3, 39));
        Unchanged.refused("wind(3, 1000) of three", INDEX, Benches::three, x -> x.wind(3, 1000));
        Unchanged.refused("run(0) behind 99999", ARGUMENT, () -> Benches.behind(99999), x -> x.run(0));
        Unchanged.refused("run(501) behind 99999", ARGUMENT, () -> Benches.behind(99999), x -> x.run(501));
        Unchanged.refused("set(3, -1)", INDEX, Benches::three, x -> x.set(3, -1));
        Unchanged.refused("set(-1, 901)", INDEX, Benches::three, x -> x.set(-1, 901));
        Unchanged.refused("append(32) to 60", ARGUMENT, () -> typed(Benches.SIXTY), x -> x.append(32));
        Unchanged.refused("append(127) to 60", ARGUMENT, () -> typed(Benches.SIXTY), x -> x.append(127));
        Unchanged.refused("goBack(2), none is kept", ARGUMENT, () -> Benches.behind(7), x -> x.goBack(2));
        Unchanged.refused("arm(3, 9) of three", INDEX, Benches::three, x -> x.arm(3, 9));
        Unchanged.refused("apart(3, 3) of three", INDEX, Benches::three, x -> x.apart(3, 3));
        Unchanged.refused("apart(-1, -1) of three", INDEX, Benches::three, x -> x.apart(-1, -1));
    }
}
