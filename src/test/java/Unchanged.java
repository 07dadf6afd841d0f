import java.util.ArrayList;
import java.util.List;

/** Compares all that an object holds, saved states and slots too, with what another one holds. */
final class Unchanged {
    static final Class<?> ARGUMENT = IllegalArgumentException.class;
    static final Class<?> STATE = IllegalStateException.class;
    static final Class<?> INDEX = IndexOutOfBoundsException.class;

    /** Makes the same object each time. */
    interface Maker {
        BoardMetronomes make();
    }

    /** A call on an object. */
    interface Try {
        Object on(BoardMetronomes x);
    }

    private Unchanged() {
    }

    /** The call throws just this exception, and changes nothing at all. */
    static void refused(String call, Class<?> want, Maker maker, Try made) {
        BoardMetronomes x = maker.make();
        Object got = Check.outcome(() -> made.on(x));
        Check.dueTrue(call + " throws " + want.getSimpleName() + ", it gave " + got, want.equals(got));
        dueSame(call + " is refused", x, maker.make());
    }

    /** The call answers, and changes nothing at all. */
    static void look(String call, Maker maker, Try made) {
        BoardMetronomes x = maker.make();
        Object got = Check.outcome(() -> made.on(x));
        Check.dueTrue(call + " answers, it gave " + got, got instanceof String);
        dueSame(call + " is a look", x, maker.make());
    }

    /** The call saves one state, and undo brings back all that was before it, but the buffer. */
    static void undoable(String call, Maker maker, Try made) {
        BoardMetronomes x = maker.make();
        BoardMetronomes before = maker.make();
        Object got = Check.outcome(() -> made.on(x));
        Check.dueTrue(call + " answers, it gave " + got, got instanceof String);
        Check.due(call + " saves a state", x.count(11), before.count(11) + 1);
        Check.due(call + " is undone", x.undo(), before.count(11));
        x.clearBuffer();
        before.clearBuffer();
        dueSame(call + " is undone", x, before);
    }

    /** Takes both objects to pieces: they are of no use behind it. */
    static void dueSame(String when, BoardMetronomes x, BoardMetronomes want) {
        List<Object> got = piecesOf(x);
        List<Object> due = piecesOf(want);
        Check.dueTrue("all is the same: " + when + " " + got + " " + due, got.equals(due));
    }

    private static List<Object> piecesOf(BoardMetronomes x) {
        List<Object> pieces = new ArrayList<>();
        pieces.add(x.digest());
        for (int state = 0; state <= 6; state++) {
            pieces.add(Check.outcome(x::undo));
            pieces.add(x.digest());
        }
        for (int slot = 0; slot <= 1; slot++) {
            int kept = slot;
            pieces.add(Check.outcome(() -> x.goBack(kept)));
            pieces.add(x.digest());
        }
        return pieces;
    }
}
