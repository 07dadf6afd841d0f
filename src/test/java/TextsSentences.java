/** The sentences of the promises 10 to 16. */
final class TextsSentences {
    private static final Class<?> ARGUMENT = Unchanged.ARGUMENT;
    private static final Class<?> STATE = Unchanged.STATE;
    private static final int[] NO_SLOTS = {-1, 2, Integer.MIN_VALUE, Integer.MAX_VALUE};

    private TextsSentences() {
    }

    static void all() {
        append();
        clearBuffer();
        firstError();
        playAsMethods();
        playUpToAnException();
        playOfNoBench();
        keep();
        goBack();
        undo();
    }

    private static BoardMetronomes typed(BoardMetronomes x, String text) {
        x.clearBuffer();
        Check.type(x, text);
        return x;
    }

    private static BoardMetronomes typed(String text) {
        return typed(Benches.three(), text);
    }

    private static void append() {
        Page page = Page.of("Promise 10:");
        page.tells("Appends a character to the buffer.");
        page.tells("`code`: the character code, 33 to 126");
        page.tells("Returns the new length of the buffer.");
        BoardMetronomes x = new BoardMetronomes();
        int length = 0;
        for (int code = 33; code <= 91; code++) {
            length++;
            Check.due("append(" + code + ")", x.append(code), length);
        }
        Check.due("the 60th", x.append(126), 60);
        for (int code = 33; code <= 126; code++) {
            BoardMetronomes y = new BoardMetronomes();
            Check.due("append(" + code + ")", y.append(code), 1);
            String one = String.valueOf((char) code);
            Check.due("it is in the buffer", y.digest(), ForecastsTest.listed(y, false, false, one));
        }
        Check.due("no state is saved", x.count(11), 0);
        page.tells("Throws `IllegalArgumentException` if code is not 33 to 126");
        int[] wrong = {32, 127, 0, -1, 33 + 256, 33 + 65536, Integer.MIN_VALUE, Integer.MAX_VALUE};
        for (int code : wrong) {
            Unchanged.refused("append(" + code + ")", ARGUMENT, Benches::three, y -> y.append(code));
        }
        page.tells("Throws `IllegalStateException` if the buffer has 60 characters");
        Unchanged.refused("append(33) to 60", STATE, () -> typed(Benches.SIXTY), y -> y.append(33));
        Unchanged.refused("append(126) to 60", STATE, () -> typed(Benches.SIXTY), y -> y.append(126));
    }

    private static void clearBuffer() {
        Page page = Page.of("Promise 11:");
        page.tells("Clears the buffer.");
        page.tells("Returns the length that it had.");
        BoardMetronomes x = new BoardMetronomes();
        Check.due("of an empty one", x.clearBuffer(), 0);
        x.append('h');
        Check.due("of one sign", x.clearBuffer(), 1);
        typed(x, Benches.SIXTY);
        Check.due("of a full one", x.clearBuffer(), 60);
        Check.due("it is empty", x.firstError(), 0);
        Check.due("append behind it", x.append('s'), 1);
        Check.due("no state is saved", x.count(11), 0);
        Check.due("what was in it is gone", x.digest(), ForecastsTest.listed(x, false, false, "s"));
    }

    private static void firstError() {
        Page page = Page.of("Promise 12:");
        page.tells("Finds the first syntax error of the buffer.");
        page.tells("Returns the index of the first character that is a syntax error; "
            + "the length of the buffer if there is none.");
        Check.due("an empty one", new BoardMetronomes().firstError(), 0);
        Check.due("an error at the first one", typed("?").firstError(), 0);
        Check.due("none in one", typed("m").firstError(), 1);
        Check.due("none in sixty", typed(Benches.SIXTY).firstError(), 60);
        String full = Benches.SIXTY.substring(0, 59);
        Check.due("an error at the last of sixty", typed(full + "@").firstError(), 59);
        Check.due("two errors", typed("s1;?;?").firstError(), 3);
        Check.due("no such metronome is no syntax error", typed(new BoardMetronomes(), "h5;s500").firstError(), 7);
        Unchanged.look("firstError", Benches::three, BoardMetronomes::firstError);
    }

    private static void playAsMethods() {
        Page page = Page.of("Promise 13:");
        page.tells("Does the orders in the buffer as metronome(), run() and hold() do, one after the other, up to the "
            + "first one whose method would throw an exception, and clears the buffer.");
        page.tells("Returns how many are done.");
        BoardMetronomes x = typed("m41@3599*999;s500;h0;m208@0;s1;h3;h0;s9;h2;s40");
        BoardMetronomes y = typed("");
        Check.due("ten orders", x.play(), 10);
        y.metronome(41, 3599, 999);
        y.run(500);
        y.hold(0);
        y.metronome(208, 0, 500);
        y.run(1);
        y.hold(3);
        y.hold(0);
        y.run(9);
        y.hold(2);
        y.run(40);
        Check.due("saved states", x.count(11), 6);
        for (int i = 0; i < 6; i++) {
            x.set(1, i);
            y.set(1, i);
        }
        Unchanged.dueSame("play as the methods", x, y);
        BoardMetronomes z = typed(Benches.SIXTY);
        Check.due("twenty orders in sixty signs", z.play(), 20);
        Check.due("it is cleared", z.clearBuffer(), 0);
        Check.due("one order", typed("s1").play(), 1);
    }

    private static void duePlayed(String text, BoardMetronomes x, int done) {
        typed(x, text);
        Check.due("play of " + text, x.play(), done);
        Check.due("the buffer is cleared behind " + text, x.clearBuffer(), 0);
    }

    private static void playUpToAnException() {
        BoardMetronomes x = Benches.three();
        int steps = x.count(2);
        duePlayed("h0;h3;s1", x, 1);
        Check.due("h0 is done", x.arm(0, 3), 1);
        duePlayed("s7;m40@0;m41@1;m42@2;m43@3;s1", x, 4);
        Check.due("six", x.count(0), 6);
        Check.due("the orders behind are not done", x.count(2) - steps, 7);
        BoardMetronomes y = Benches.behind(99990);
        duePlayed("s9;s1;h0", y, 1);
        Check.due("steps", y.count(2), 99999);
        Check.due("h0 is not done", y.arm(0, 3), 0);
        duePlayed("h0;s500", y, 1);
        duePlayed("h0;h1", y, 2);
        Check.due("h0 is done twice", y.arm(0, 3), 0);
        Page.of("Promise 13:").tells("Undoable, as one call, also if none is done.");
        String[] texts = {"s1", "h0;s3;m50@60;h3;s500", "h5", "h5;s1", "h0;h5;s1"};
        for (String text : texts) {
            Unchanged.undoable("play of " + text, () -> typed(text), BoardMetronomes::play);
        }
        duePlayed("m40@0", Benches.six(), 0);
        Unchanged.undoable("play of a seventh", () -> typed(Benches.six(), "m40@0"), BoardMetronomes::play);
        Unchanged.undoable("play of s1 behind 99999", () -> typed(Benches.behind(99999), "s1"), BoardMetronomes::play);
        duePlayed("s1", Benches.behind(99999), 0);
    }

    private static void playOfNoBench() {
        Page.of("Promise 13:").tells("Throws `IllegalArgumentException` if the buffer does not tell a bench as a text");
        String[] texts = {"", "m", "m40", "m40@", "m40@0*", "s", "h", "s1;", ";s1", "s1;;s1", "s1;m", "s1;x", "s0",
            "h6", "m39@0", "m40@3600", "m40@0*0", "s501", "s1;s01", Benches.SIXTY.substring(0, 57) + "m40"};
        for (String text : texts) {
            Unchanged.refused("play of " + text, ARGUMENT, () -> typed(text), BoardMetronomes::play);
            BoardMetronomes x = typed(text);
            Check.outcome(x::play);
            Check.due("the buffer stays: " + text, x.clearBuffer(), text.length());
        }
    }

    private static void keep() {
        Page page = Page.of("Promise 14:");
        page.tells("Takes a snapshot, in place of the one in the slot.");
        page.tells("`slot`: 0 or 1");
        page.tells("Returns the steps so far.");
        for (int slot = 0; slot <= 1; slot++) {
            BoardMetronomes x = new BoardMetronomes();
            Check.due("without steps", x.keep(slot), 0);
            x.run(7);
            Check.due("behind 7", x.keep(slot), 7);
            x.run(1);
            Check.due("the other slot", x.keep(1 - slot), 8);
            x.run(1);
            Check.due("in place of the one behind 0", x.goBack(slot), 7);
            Check.due("the other slot", x.goBack(1 - slot), 8);
            Check.due("no state is saved by keep", x.count(11), 5);
        }
        Check.due("behind 99999", Benches.behind(99999).keep(1), 99999);
        page.tells("Throws `IllegalArgumentException` if slot is out of range");
        for (int slot : NO_SLOTS) {
            Unchanged.refused("keep(" + slot + ")", ARGUMENT, Benches::three, x -> x.keep(slot));
        }
    }

    private static void goBack() {
        Page page = Page.of("Promise 15:");
        page.tells("Goes back to a snapshot, which stays.");
        page.tells("`slot`: 0 or 1");
        page.tells("Returns the steps so far then.");
        for (int slot = 0; slot <= 1; slot++) {
            BoardMetronomes x = Benches.three();
            int steps = slot == 0 ? 9 : 69;
            Check.due("goBack(" + slot + ")", x.goBack(slot), steps);
            long digest = x.digest();
            for (int again = 0; again < 3; again++) {
                x.run(20);
                x.take();
                x.metronome(40, 0, 0);
                x.hold(1);
                x.weigh(0, 50);
                Check.due("goBack(" + slot + ") again", x.goBack(slot), steps);
                Check.due("as the first time", x.digest(), digest);
            }
            Check.due("steps", x.count(2), steps);
        }
        page.tells("Undoable.");
        Unchanged.undoable("goBack(0)", Benches::three, x -> x.goBack(0));
        Unchanged.undoable("goBack(1)", Benches::six, x -> x.goBack(1));
        page.tells("Throws `IllegalArgumentException` if slot is out of range");
        for (int slot : NO_SLOTS) {
            Unchanged.refused("goBack(" + slot + ")", ARGUMENT, Benches::three, x -> x.goBack(slot));
        }
        page.tells("Throws `IllegalStateException` if there is no snapshot in it");
        for (int slot = 0; slot <= 1; slot++) {
            int empty = slot;
            Unchanged.refused("goBack to an empty slot", STATE, () -> Benches.behind(5), x -> x.goBack(empty));
            Unchanged.refused("goBack to an empty slot beside a full one", STATE, () -> {
                BoardMetronomes x = Benches.behind(5);
                x.keep(1 - empty);
                return x;
            }, x -> x.goBack(empty));
        }
    }

    private static void undo() {
        Page page = Page.of("Promise 16:");
        page.tells("Restores the latest saved state, and drops it.");
        page.tells("Returns how many saved states are left.");
        BoardMetronomes x = new BoardMetronomes();
        x.metronome(40, 0, 0);
        x.weigh(0, 41);
        x.weigh(0, 42);
        Check.due("undo", x.undo(), 2);
        Check.due("the beat then", x.arm(0, 0), 41);
        Check.due("undo", x.undo(), 1);
        Check.due("the beat then", x.arm(0, 0), 40);
        x.weigh(0, 43);
        Check.due("undo behind another call", x.undo(), 1);
        Check.due("the beat then", x.arm(0, 0), 40);
        Check.due("undo of the first call", x.undo(), 0);
        Check.due("no metronome", x.count(0), 0);
        page.tells("Throws `IllegalStateException` if there is none");
        Unchanged.refused("undo of a new object", STATE, BoardMetronomes::new, BoardMetronomes::undo);
        Unchanged.refused("undo behind the last state", STATE, () -> {
            BoardMetronomes y = Benches.three();
            while (y.count(11) > 0) {
                y.undo();
            }
            return y;
        }, BoardMetronomes::undo);
        Unchanged.refused("undo behind calls that save none", STATE, () -> {
            BoardMetronomes y = new BoardMetronomes();
            y.append('s');
            y.keep(0);
            y.clearBuffer();
            return y;
        }, BoardMetronomes::undo);
    }
}
