/**
 * Runs of calls that look random, but are the same each time, on the class and on the model: each
 * answer, or each exception, must be the same, and so must the digests.
 */
public final class RandomRunsTest {
    private static final int RUNS = 300;
    private static final int CALLS = 60;

    private long seed;

    private RandomRunsTest(long seed) {
        this.seed = seed * 0x9E3779B97F4A7C15L + 1;
    }

    public static void main(String[] args) {
        for (int run = 0; run < RUNS; run++) {
            new RandomRunsTest(run).runCalls(run);
        }
        Check.finish("RandomRunsTest");
    }

    private int below(int bound) {
        seed ^= seed << 13;
        seed ^= seed >>> 7;
        seed ^= seed << 17;
        return (int) Math.floorMod(seed >>> 11, (long) bound);
    }

    /** Mostly from the range, at times at its ends, and seldom beyond them. */
    private int around(int lowest, int highest) {
        switch (below(12)) {
            case 0:
                return lowest;
            case 1:
                return highest;
            case 2:
                return below(3) == 0 ? lowest - 1 : lowest;
            case 3:
                return below(3) == 0 ? highest + 1 : highest;
            default:
                return lowest + below(highest - lowest + 1);
        }
    }

    private void runCalls(int run) {
        BoardMetronomes x = new BoardMetronomes();
        Model m = new Model();
        int arms = below(7);
        for (int i = 0; i < arms; i++) {
            int beat = 100 + below(9);
            int phase = below(3600);
            int spring = 1 + below(run % 2 == 0 ? 9 : 999);
            same("start", () -> x.metronome(beat, phase, spring), () -> m.metronome(beat, phase, spring));
        }
        for (int i = 0; i < CALLS; i++) {
            call("run " + run + ", call " + i, x, m);
            if (i % 8 == 7) {
                Check.due("run " + run + ", digest behind call " + i, x.digest(), m.digest());
            }
        }
    }

    private static void same(String name, Check.Call got, Check.Call want) {
        Object is = Check.outcome(got);
        Object due = Check.outcome(want);
        Check.dueTrue(name + " answered " + is + ", due is " + due, is.equals(due));
    }

    private void call(String at, BoardMetronomes x, Model m) {
        int number = around(0, Math.max(0, x.count(0) - 1));
        int kind = below(25);
        if (kind < 12) {
            change(at, kind, number, x, m);
        } else if (kind < 15) {
            text(at, x, m);
        } else {
            look(at, kind, number, x, m);
        }
    }

    private void change(String at, int kind, int number, BoardMetronomes x, Model m) {
        int beat = around(40, 208);
        int phase = around(0, 3599);
        int spring = around(0, 999);
        int steps = below(3) == 0 ? around(1, 500) : 1 + below(40);
        int setting = around(0, 2);
        int value = around(0, setting == 2 ? 900 : setting == 1 ? 99 : 95);
        int slot = around(0, 1);
        switch (kind) {
            case 0:
                same(at + " metronome", () -> x.metronome(beat, phase, spring), () -> m.metronome(beat, phase, spring));
                break;
            case 1:
                same(at + " weigh", () -> x.weigh(number, beat), () -> m.weigh(number, beat));
                break;
            case 2:
                same(at + " wind", () -> x.wind(number, spring), () -> m.wind(number, spring));
                break;
            case 3:
                same(at + " hold", () -> x.hold(number), () -> m.hold(number));
                break;
            case 4:
                same(at + " take", x::take, m::take);
                break;
            case 5:
                same(at + " stop", x::stop, m::stop);
                break;
            case 6:
                same(at + " set", () -> x.set(setting, value), () -> m.set(setting, value));
                break;
            case 7:
                same(at + " keep", () -> x.keep(slot), () -> m.keep(slot));
                break;
            case 8:
                same(at + " goBack", () -> x.goBack(slot), () -> m.goBack(slot));
                break;
            case 9:
                same(at + " undo", x::undo, m::undo);
                break;
            default:
                same(at + " run", () -> x.run(steps), () -> m.run(steps));
                break;
        }
    }

    /** A text that is mostly a bench, and at times has a wrong sign in it or is cut. */
    private void text(String at, BoardMetronomes x, Model m) {
        StringBuilder text = new StringBuilder();
        int orders = 1 + below(6);
        for (int i = 0; i < orders; i++) {
            text.append(i > 0 ? ";" : "").append(order());
        }
        if (below(3) == 0) {
            text.setCharAt(below(text.length()), "0123456789;@*msh!~"
                .charAt(below(18)));
        }
        if (below(5) == 0) {
            text.setLength(below(text.length() + 1));
        }
        for (int i = 0; i < text.length(); i++) {
            int code = text.charAt(i);
            same(at + " append", () -> x.append(code), () -> m.append(code));
            if (i % 5 == 4) {
                same(at + " firstError", x::firstError, m::firstError);
            }
        }
        same(at + " firstError of " + text, x::firstError, m::firstError);
        same(at + " play of " + text, x::play, m::play);
        same(at + " firstError", x::firstError, m::firstError);
        if (below(3) > 0) {
            same(at + " clearBuffer", x::clearBuffer, m::clearBuffer);
        }
        int code = around(33, 126);
        same(at + " append", () -> x.append(code), () -> m.append(code));
        if (below(3) > 0) {
            same(at + " clearBuffer", x::clearBuffer, m::clearBuffer);
        }
    }

    private String order() {
        switch (below(4)) {
            case 0:
                return "m" + around(40, 208) + "@" + around(0, 3599);
            case 1:
                return "m" + around(40, 208) + "@" + around(0, 3599) + "*" + around(1, 999);
            case 2:
                return "s" + around(1, 500);
            default:
                return "h" + around(0, 5);
        }
    }

    private void look(String at, int kind, int number, BoardMetronomes x, Model m) {
        int other = around(0, Math.max(0, x.count(0) - 1));
        int property = around(0, 8);
        int figure = around(0, 11);
        int setting = around(0, 2);
        int steps = around(1, 500);
        int fewer = around(1, 300);
        int strength = around(0, 99);
        int what = around(0, 4);
        boolean latter = below(2) == 0;
        switch (kind) {
            case 15:
                same(at + " arm", () -> x.arm(number, property), () -> m.arm(number, property));
                break;
            case 16:
                same(at + " apart", () -> x.apart(number, other), () -> m.apart(number, other));
                break;
            case 17:
                same(at + " count", () -> x.count(figure), () -> m.count(figure));
                break;
            case 18:
                same(at + " setting", () -> x.setting(setting), () -> m.setting(setting));
                break;
            case 19:
                same(at + " ifRun", () -> x.ifRun(steps, strength, what), () -> m.ifRun(steps, strength, what));
                break;
            case 20:
                same(at + " untilStep", x::untilStep, m::untilStep);
                break;
            case 21:
                same(at + " bestStrength", () -> x.bestStrength(fewer), () -> m.bestStrength(fewer));
                break;
            case 22:
                same(at + " stopsIn", () -> x.stopsIn(number), () -> m.stopsIn(number));
                break;
            case 23:
                same(at + " farthest", () -> x.farthest(latter), () -> m.farthest(latter));
                break;
            default:
                same(at + " togetherShare", x::togetherShare, m::togetherShare);
                break;
        }
    }
}
