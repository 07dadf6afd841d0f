/** Promises 10 to 13: append, clearBuffer, firstError, play. */
public final class TextsTest {
    private static final Class<?> ARGUMENT = IllegalArgumentException.class;
    private static final Class<?> STATE = IllegalStateException.class;
    private static final String SIXTY = "s1;s1;s1;s1;s1;s1;s1;s1;s1;s1;s1;s1;s1;s1;s1;s1;s1;s1;s1;s10";

    private TextsTest() {
    }

    public static void main(String[] args) {
        append();
        clearBuffer();
        firstErrorOfNumbers();
        firstErrorOfOrders();
        playNeedsABench();
        playMetronomes();
        playStepsAndHolds();
        playStopsEarly();
        playIsUndoneAsOneCall();
        Check.finish("TextsTest");
    }

    private static void append() {
        BoardMetronomes x = new BoardMetronomes();
        Check.throwsAndChangesNothing("append(32)", x, ARGUMENT, () -> x.append(32));
        Check.throwsAndChangesNothing("append(127)", x, ARGUMENT, () -> x.append(127));
        Check.throwsAndChangesNothing("append(-1)", x, ARGUMENT, () -> x.append(-1));
        Check.due("append(33)", x.append(33), 1);
        Check.due("append(126)", x.append(126), 2);
        for (int length = 3; length <= 60; length++) {
            Check.due("append", x.append('s'), length);
        }
        Check.throwsAndChangesNothing("the 61st character", x, STATE, () -> x.append('s'));
        Check.throwsAndChangesNothing("the 61st character, 32", x, ARGUMENT, () -> x.append(32));
        Check.throwsAndChangesNothing("the 61st character, 127", x, ARGUMENT, () -> x.append(127));
        Check.due("append is not undoable", x.count(11), 0);
    }

    private static void clearBuffer() {
        BoardMetronomes x = new BoardMetronomes();
        Check.due("clearBuffer, empty", x.clearBuffer(), 0);
        Check.type(x, SIXTY);
        Check.due("clearBuffer, full", x.clearBuffer(), 60);
        Check.due("clearBuffer again", x.clearBuffer(), 0);
        Check.due("append behind it", x.append('m'), 1);
        Check.due("clearBuffer is not undoable", x.count(11), 0);
    }

    private static int firstErrorOf(String text) {
        BoardMetronomes x = new BoardMetronomes();
        Check.type(x, text);
        return x.firstError();
    }

    private static void errorAt(String text, int index) {
        Check.due("firstError of " + text, firstErrorOf(text), index);
    }

    private static void noError(String text) {
        errorAt(text, text.length());
    }

    /** Each number with up to five digits, in each place: an oracle that lists what may stand. */
    private static void firstErrorOfNumbers() {
        String[] before = {"m", "m40@", "m40@0*", "s", "h"};
        int[] lowest = {40, 0, 1, 1, 0};
        int[] highest = {208, 3599, 999, 500, 5};
        for (int place = 0; place < before.length; place++) {
            java.util.TreeSet<String> all = new java.util.TreeSet<>();
            for (int n = lowest[place]; n <= highest[place]; n++) {
                all.add(Integer.toString(n));
            }
            for (int n = 0; n < 11111; n++) {
                String digits = Integer.toString(n);
                int index = 0;
                while (index < digits.length() && begins(all, digits.substring(0, index + 1))) {
                    index++;
                }
                errorAt(before[place] + digits, before[place].length() + index);
            }
            errorAt(before[place] + "00", before[place].length() + (lowest[place] == 0 ? 1 : 0));
            errorAt(before[place] + "01", before[place].length() + (lowest[place] == 0 ? 1 : 0));
        }
    }

    private static boolean begins(java.util.TreeSet<String> all, String part) {
        String next = all.ceiling(part);
        return next != null && next.startsWith(part);
    }

    private static void firstErrorOfOrders() {
        noError("");
        noError("m40@0");
        noError("m208@3599*999;s1;h0;s500;h5");
        noError("m40@0*1;");
        noError(SIXTY);
        errorAt("x", 0);
        errorAt(";", 0);
        errorAt("M40@0", 0);
        errorAt("1", 0);
        errorAt("m;", 1);
        errorAt("m@", 1);
        errorAt("m4@", 2);
        errorAt("m20@", 3);
        errorAt("m40;", 3);
        errorAt("m40*", 3);
        errorAt("m40@;", 4);
        errorAt("m40@*1", 4);
        errorAt("m40@0@", 5);
        errorAt("m40@0m", 5);
        errorAt("m40@0*;", 6);
        errorAt("m40@0*1*", 7);
        errorAt("m40@0*1@", 7);
        errorAt("s;", 1);
        errorAt("s1*", 2);
        errorAt("s1@", 2);
        errorAt("s-1", 1);
        errorAt("h;", 1);
        errorAt("h6", 1);
        errorAt("h0*", 2);
        errorAt("h0h", 2);
        errorAt("s1;;", 3);
        errorAt("s1;1", 3);
        errorAt("s1;s1;x;y", 6);
        errorAt(SIXTY.substring(0, 59) + ";", 59 + 1);
        errorAt(SIXTY.substring(0, 59) + "x", 59);
    }

    private static void playNeedsABench() {
        String[] none = {"", "m", "m4", "m40", "m40@", "m40@0*", "s", "h", "s1;", "s1;m", "x", "m20@0", "s0", "s501",
            "h6", "s01", "s1;;s1", "m40@3600", "m40@0*0", "m40@0*1000"};
        for (String text : none) {
            BoardMetronomes x = new BoardMetronomes();
            x.metronome(100, 0, 5);
            Check.type(x, text);
            Check.throwsAndChangesNothing("play of " + text, x, ARGUMENT, x::play);
            Check.due("the buffer stays", x.clearBuffer(), text.length());
        }
    }

    private static int played(BoardMetronomes x, String text) {
        Check.type(x, text);
        int done = x.play();
        Check.due("the buffer is cleared by " + text, x.clearBuffer(), 0);
        return done;
    }

    private static void dueArm(BoardMetronomes x, int number, int beat, int phase, int spring) {
        Check.due("beat of " + number, x.arm(number, 0), beat);
        Check.due("phase of " + number, x.arm(number, 1), phase);
        Check.due("spring of " + number, x.arm(number, 2), spring);
    }

    private static void playMetronomes() {
        BoardMetronomes x = new BoardMetronomes();
        Check.due("play", played(x, "m40@0"), 1);
        dueArm(x, 0, 40, 0, 500);
        Check.due("play", played(x, "m208@3599*999;m99@10*1;m100@9"), 3);
        dueArm(x, 1, 208, 3599, 999);
        dueArm(x, 2, 99, 10, 1);
        dueArm(x, 3, 100, 9, 500);
        Check.due("count(0)", x.count(0), 4);
        Check.due("count(11)", x.count(11), 2);
    }

    private static void playStepsAndHolds() {
        BoardMetronomes x = new BoardMetronomes();
        x.set(1, 0);
        Check.due("play", played(x, "m40@3560;s1;m60@5*7;h0;s2;h1;s1;h1;h0"), 9);
        dueArm(x, 0, 40, 0, 499);
        dueArm(x, 1, 60, 125, 7);
        Check.due("steps", x.count(2), 4);
        Check.due("ticks", x.count(3), 1);
        Check.due("held", x.arm(0, 3) + x.arm(1, 3), 0);
        Check.due("play of 60 characters", played(x, SIXTY), 20);
        Check.due("steps", x.count(2), 4 + 19 + 10);
        Check.due("play of s500", played(x, "s500"), 1);
        Check.due("steps", x.count(2), 4 + 19 + 10 + 500);
    }

    private static void playStopsEarly() {
        BoardMetronomes x = new BoardMetronomes();
        Check.due("hold of none", played(x, "h0;m40@0"), 0);
        Check.due("nothing is done", x.count(0), 0);
        Check.due("it is undoable", x.count(11), 1);
        Check.due("the second hold is of none", played(x, "m40@0;h0;h1;s1"), 2);
        Check.due("h0 is done", x.arm(0, 3), 1);
        Check.due("s1 is not done", x.count(2), 0);
        Check.due("six and a seventh", played(x, "m41@0;m42@0;m43@0;m44@0;m45@0;m46@0;s1"), 5);
        Check.due("count(0)", x.count(0), 6);
        Check.due("s1 is not done", x.count(2), 0);
        Check.due("hold of the sixth", played(x, "h5"), 1);
        Check.due("arm(5, 3)", x.arm(5, 3), 1);
    }

    private static void playIsUndoneAsOneCall() {
        BoardMetronomes x = new BoardMetronomes();
        x.metronome(100, 0, 5);
        long before = x.digest();
        played(x, "m40@0;s20;h0;s3;m50@60");
        Check.due("saved states", x.count(11), 2);
        Check.type(x, "s1");
        Check.due("undo", x.undo(), 1);
        Check.due("undo leaves the buffer", x.clearBuffer(), 2);
        Check.due("digest as before", x.digest(), before);
    }
}
