/** Promises 14 to 16: keep, goBack, undo. */
public final class SnapshotsTest {
    private static final Class<?> ARGUMENT = IllegalArgumentException.class;
    private static final Class<?> STATE = IllegalStateException.class;

    private SnapshotsTest() {
    }

    public static void main(String[] args) {
        keep();
        goBack();
        slotsAreApart();
        undoOfEachMethod();
        undoOfSix();
        undoLeavesBufferAndSlots();
        Check.finish("SnapshotsTest");
    }

    private static BoardMetronomes three() {
        BoardMetronomes x = new BoardMetronomes();
        x.metronome(100, 3500, 3);
        x.metronome(120, 3550, 4);
        x.metronome(130, 900, 5);
        return x;
    }

    private static void keep() {
        BoardMetronomes x = three();
        Check.throwsAndChangesNothing("keep(-1)", x, ARGUMENT, () -> x.keep(-1));
        Check.throwsAndChangesNothing("keep(2)", x, ARGUMENT, () -> x.keep(2));
        Check.due("keep(0) without steps", x.keep(0), 0);
        x.run(7);
        Check.due("keep(1)", x.keep(1), 7);
        Check.due("keep is not undoable", x.count(11), 4);
        x.run(3);
        Check.due("keep(1) in place of the other", x.keep(1), 10);
        x.run(1);
        Check.due("goBack(1)", x.goBack(1), 10);
    }

    private static void goBack() {
        BoardMetronomes x = three();
        x.set(2, 77);
        x.run(9);
        x.hold(2);
        Check.throwsAndChangesNothing("goBack(-1)", x, ARGUMENT, () -> x.goBack(-1));
        Check.throwsAndChangesNothing("goBack(2)", x, ARGUMENT, () -> x.goBack(2));
        Check.throwsAndChangesNothing("goBack(0), empty", x, STATE, () -> x.goBack(0));
        Check.throwsAndChangesNothing("goBack(1), empty", x, STATE, () -> x.goBack(1));
        x.keep(0);
        Check.throwsAndChangesNothing("goBack(1), empty yet", x, STATE, () -> x.goBack(1));
        Check.due("saved states", x.count(11), 6);
        long kept = x.digest();
        x.hold(2);
        x.set(0, 1);
        x.set(1, 2);
        x.set(2, 3);
        x.weigh(0, 44);
        x.wind(1, 55);
        x.take();
        x.run(20);
        x.metronome(60, 60, 60);
        Check.type(x, "s1");
        long changed = x.digest();
        Check.due("goBack(0)", x.goBack(0), 9);
        Check.due("the buffer stays", x.clearBuffer(), 2);
        Check.due("six saved states", x.count(11), 6);
        Check.due("digest of what was kept", x.digest(), kept);
        Check.due("setting(2)", x.setting(2), 77);
        Check.due("arm(2, 3)", x.arm(2, 3), 1);
        x.run(20);
        x.goBack(0);
        Check.due("the snapshot stays", x.digest(), kept);
        x.undo();
        x.undo();
        x.undo();
        Check.type(x, "s1");
        Check.due("goBack is undone, three states are left", x.count(11), 3);
        fill(x);
        Check.due("the state before goBack", x.digest(), changed);
    }

    /** Saves states until there are six, and leaves all else as it is. */
    private static void fill(BoardMetronomes x) {
        while (x.count(11) < 6) {
            x.set(0, x.setting(0));
        }
    }

    private static void slotsAreApart() {
        BoardMetronomes x = three();
        x.keep(0);
        x.run(5);
        x.keep(1);
        x.run(5);
        Check.due("goBack(0)", x.goBack(0), 0);
        Check.due("goBack(1)", x.goBack(1), 5);
        Check.due("goBack(0) again", x.goBack(0), 0);
        x.keep(1);
        Check.due("goBack(1) behind keep(1)", x.goBack(1), 0);
    }

    private static void undoOfEachMethod() {
        BoardMetronomes x = three();
        x.run(3);
        x.keep(0);
        x.run(3);
        long before = x.digest();
        Runnable[] calls = {() -> x.metronome(50, 60, 70), () -> x.weigh(0, 90), () -> x.weigh(0, 100),
            () -> x.wind(1, 8), () -> x.hold(2), x::take, () -> x.run(200), x::stop, () -> x.set(1, 99),
            () -> x.goBack(0), () -> playText(x, "m50@60;s9;h2;h3"), () -> playText(x, "h5")};
        for (int i = 0; i < calls.length; i++) {
            calls[i].run();
            Check.due("saved states behind call " + i, x.count(11), 6);
            Check.due("undo of call " + i, x.undo(), 5);
            Check.due("digest behind undo of call " + i, x.digest(), before);
        }
    }

    private static void playText(BoardMetronomes x, String text) {
        Check.type(x, text);
        x.play();
    }

    private static void undoOfSix() {
        BoardMetronomes x = new BoardMetronomes();
        x.metronome(40, 0, 0);
        for (int beat = 41; beat <= 46; beat++) {
            x.weigh(0, beat);
        }
        Check.due("a seventh drops the oldest", x.count(11), 6);
        for (int left = 5; left >= 0; left--) {
            Check.due("undo", x.undo(), left);
            Check.due("the beat then", x.arm(0, 0), 40 + left);
            Check.due("count(11)", x.count(11), left);
        }
        Check.throwsAndChangesNothing("undo without states", x, STATE, x::undo);
        Check.due("the metronome is there", x.count(0), 1);
        for (int beat = 41; beat <= 60; beat++) {
            x.weigh(0, beat);
        }
        for (int left = 5; left >= 0; left--) {
            Check.due("undo behind many", x.undo(), left);
            Check.due("the beat then", x.arm(0, 0), 54 + left);
        }
        Check.throwsAndChangesNothing("undo without states again", x, STATE, x::undo);
    }

    private static void undoLeavesBufferAndSlots() {
        BoardMetronomes x = three();
        x.run(2);
        x.keep(1);
        Check.type(x, "h0");
        x.undo();
        Check.due("the buffer", x.firstError(), 2);
        Check.due("the slot", x.goBack(1), 2);
        Check.throwsAndChangesNothing("the other slot", x, STATE, () -> x.goBack(0));
        Check.due("play", x.play(), 1);
    }
}
