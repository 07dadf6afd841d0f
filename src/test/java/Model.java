import java.util.ArrayDeque;
import java.util.ArrayList;
import java.util.Deque;
import java.util.List;

/**
 * The document once more, in another way: states that are copied whole, texts that are split at
 * their signs, pairs that are listed. RandomRunsTest compares the class with it.
 */
final class Model {
    /** A metronome. */
    private static final class Arm {
        private int beat;
        private int phase;
        private int spring;
        private boolean held;
        private int ticks;

        private Arm copy() {
            Arm c = new Arm();
            c.beat = beat;
            c.phase = phase;
            c.spring = spring;
            c.held = held;
            c.ticks = ticks;
            return c;
        }

        private boolean goes() {
            return !held && spring > 0;
        }

        private long swing() {
            return swingOf(phase);
        }

        private long turn() {
            return swingOf(Math.floorMod(phase + 900, 3600));
        }
    }

    /** All but the buffer, the slots and the saved states. */
    private static final class State {
        private List<Arm> arms = new ArrayList<>();
        private long a = 0;
        private long b = 0;
        private long[] settings = {50, 10, 50};
        private int steps = 0;
        private int ticks = 0;
        private int together = 0;

        private State copy() {
            State c = new State();
            for (Arm arm : arms) {
                c.arms.add(arm.copy());
            }
            c.a = a;
            c.b = b;
            c.settings = settings.clone();
            c.steps = steps;
            c.ticks = ticks;
            c.together = together;
            return c;
        }

        private List<Arm> going() {
            List<Arm> going = new ArrayList<>(arms);
            going.removeIf(arm -> !arm.goes());
            return going;
        }

        private long pull(Arm arm) {
            return settings[1] * (a * arm.turn() - b * arm.swing()) / 100000;
        }

        private int step() {
            List<Arm> going = going();
            long sumA = going.stream().mapToLong(Arm::swing).sum();
            long sumB = going.stream().mapToLong(Arm::turn).sum();
            long meanA = going.isEmpty() ? 0 : sumA / going.size();
            long meanB = going.isEmpty() ? 0 : sumB / going.size();
            a = (a * settings[0] + meanA * (100 - settings[0])) / 100;
            b = (b * settings[0] + meanB * (100 - settings[0])) / 100;
            int ticking = 0;
            for (Arm arm : going) {
                long next = arm.phase + arm.beat + pull(arm);
                arm.phase = (int) Math.floorMod(next, 3600L);
                if (next >= 3600) {
                    ticking++;
                    arm.ticks++;
                    arm.spring--;
                }
            }
            steps++;
            ticks += ticking;
            together += ticking > 1 ? 1 : 0;
            return ticking;
        }

        private int go(int count) {
            int all = 0;
            for (int i = 0; i < count; i++) {
                all += step();
            }
            return all;
        }

        private long order() {
            List<Arm> going = going();
            long n = going.size();
            long sumA = going.stream().mapToLong(Arm::swing).sum();
            long sumB = going.stream().mapToLong(Arm::turn).sum();
            return n == 0 ? 0 : (sumA * sumA + sumB * sumB) / (1000 * n * n);
        }

        private long orderByPairs() {
            List<Arm> going = going();
            long sum = 0;
            for (Arm one : going) {
                for (Arm other : going) {
                    sum += one.swing() * other.swing();
                    sum += one.turn() * other.turn();
                }
            }
            return going.isEmpty() ? 0 : sum / (1000L * going.size() * going.size());
        }

        /** The former, the latter and how far they are apart; null without two that go. */
        private int[] farthest() {
            int[] best = null;
            for (int i = 0; i < arms.size(); i++) {
                for (int j = i + 1; j < arms.size(); j++) {
                    if (arms.get(i).goes() && arms.get(j).goes()) {
                        int far = distance(arms.get(i), arms.get(j));
                        best = best == null || far > best[2] ? new int[] {i, j, far} : best;
                    }
                }
            }
            return best;
        }

        private boolean inStep() {
            int[] far = farthest();
            return far != null && far[2] <= settings[2];
        }
    }

    private static final int[] HIGHEST = {95, 99, 900};

    private State now = new State();
    private final Deque<State> saved = new ArrayDeque<>();
    private final State[] slots = new State[2];
    private String buffer = "";

    private static long swingOf(int phase) {
        long q = phase % 1800;
        return (phase < 1800 ? 1 : -1) * (q * (1800 - q) / 810);
    }

    private static int distance(Arm one, Arm other) {
        int round = Math.floorMod(one.phase - other.phase, 3600);
        return Math.min(round, 3600 - round);
    }

    private static void argument(boolean holds) {
        if (!holds) {
            throw new IllegalArgumentException();
        }
    }

    private static void state(boolean holds) {
        if (!holds) {
            throw new IllegalStateException();
        }
    }

    private static void index(boolean holds) {
        if (!holds) {
            throw new IndexOutOfBoundsException();
        }
    }

    private boolean there(int number) {
        return 0 <= number && number < now.arms.size();
    }

    private void save() {
        saved.addLast(now.copy());
        if (saved.size() > 6) {
            saved.removeFirst();
        }
    }

    int metronome(int beat, int phase, int spring) {
        argument(40 <= beat && beat <= 208 && 0 <= phase && phase < 3600 && 0 <= spring && spring < 1000);
        state(now.arms.size() < 6);
        save();
        Arm arm = new Arm();
        arm.beat = beat;
        arm.phase = phase;
        arm.spring = spring;
        now.arms.add(arm);
        return now.arms.size() - 1;
    }

    int weigh(int number, int beat) {
        index(there(number));
        argument(40 <= beat && beat <= 208);
        save();
        int was = now.arms.get(number).beat;
        now.arms.get(number).beat = beat;
        return was;
    }

    int wind(int number, int spring) {
        index(there(number));
        argument(0 <= spring && spring <= 999);
        save();
        int was = now.arms.get(number).spring;
        now.arms.get(number).spring = spring;
        return was;
    }

    int hold(int number) {
        index(there(number));
        save();
        now.arms.get(number).held ^= true;
        return now.arms.get(number).held ? 1 : 0;
    }

    int take() {
        state(!now.arms.isEmpty());
        save();
        now.arms.remove(now.arms.size() - 1);
        return now.arms.size();
    }

    int run(int steps) {
        argument(1 <= steps && steps <= 500);
        state(now.steps + steps <= 99999);
        save();
        return now.go(steps);
    }

    int stop() {
        save();
        long sizes = Math.abs(now.a) + Math.abs(now.b);
        now.a = 0;
        now.b = 0;
        return (int) sizes;
    }

    int set(int setting, int value) {
        index(0 <= setting && setting <= 2);
        argument(0 <= value && value <= HIGHEST[setting]);
        save();
        long was = now.settings[setting];
        now.settings[setting] = value;
        return (int) was;
    }

    int append(int code) {
        argument(33 <= code && code <= 126);
        state(buffer.length() < 60);
        buffer += (char) code;
        return buffer.length();
    }

    int clearBuffer() {
        int had = buffer.length();
        buffer = "";
        return had;
    }

    int firstError() {
        int length = 0;
        while (length < buffer.length() && isBegin(buffer.substring(0, length + 1))) {
            length++;
        }
        return length;
    }

    private static boolean isBegin(String text) {
        String[] orders = text.split(";", -1);
        for (int i = 0; i < orders.length - 1; i++) {
            if (!isOrder(orders[i])) {
                return false;
            }
        }
        return isOrderBegin(orders[orders.length - 1]);
    }

    private static boolean isBench(String text) {
        for (String order : text.split(";", -1)) {
            if (!isOrder(order)) {
                return false;
            }
        }
        return true;
    }

    private static boolean isOrder(String order) {
        if (order.matches("h[0-5]")) {
            return true;
        }
        if (order.matches("s[1-9][0-9]{0,2}")) {
            return Integer.parseInt(order.substring(1)) <= 500;
        }
        if (!order.matches("m[1-9][0-9]{1,2}@(0|[1-9][0-9]{0,3})([*][1-9][0-9]{0,2})?")) {
            return false;
        }
        String[] numbers = order.substring(1).split("[@*]");
        int beat = Integer.parseInt(numbers[0]);
        return 40 <= beat && beat <= 208 && Integer.parseInt(numbers[1]) <= 3599;
    }

    /** Tries what may be wanting: an order is told by one more number in each place, or by none. */
    private static boolean isOrderBegin(String begin) {
        if (begin.isEmpty()) {
            return true;
        }
        String[] ends = {"", "0", "1", "00", "40", "000", "40@0", "0@0", "00@0", "@0"};
        for (String end : ends) {
            if (isOrder(begin + end)) {
                return true;
            }
        }
        return false;
    }

    int play() {
        argument(isBench(buffer));
        save();
        int done = 0;
        for (String order : buffer.split(";")) {
            Deque<State> before = new ArrayDeque<>(saved);
            try {
                playOrder(order);
            } catch (RuntimeException e) {
                break;
            }
            saved.clear();
            saved.addAll(before);
            done++;
        }
        buffer = "";
        return done;
    }

    private void playOrder(String order) {
        String[] numbers = order.substring(1).split("[@*]");
        int first = Integer.parseInt(numbers[0]);
        if (order.startsWith("h")) {
            hold(first);
        } else if (order.startsWith("s")) {
            run(first);
        } else {
            metronome(first, Integer.parseInt(numbers[1]), numbers.length > 2 ? Integer.parseInt(numbers[2]) : 500);
        }
    }

    int keep(int slot) {
        argument(slot == 0 || slot == 1);
        slots[slot] = now.copy();
        return now.steps;
    }

    int goBack(int slot) {
        argument(slot == 0 || slot == 1);
        state(slots[slot] != null);
        save();
        now = slots[slot].copy();
        return now.steps;
    }

    int undo() {
        state(!saved.isEmpty());
        now = saved.removeLast();
        return saved.size();
    }

    int arm(int number, int what) {
        index(there(number));
        argument(0 <= what && what <= 8);
        Arm arm = now.arms.get(number);
        long[] properties = {arm.beat, arm.phase, arm.spring, arm.held ? 1 : 0, arm.goes() ? 1 : 0, arm.ticks,
            arm.swing() + 1000, arm.turn() + 1000, now.pull(arm) + 1000};
        return (int) properties[what];
    }

    int apart(int one, int other) {
        index(there(one) && there(other));
        argument(one != other);
        return distance(now.arms.get(one), now.arms.get(other));
    }

    int count(int what) {
        argument(0 <= what && what <= 11);
        int[] far = now.farthest();
        long[] numbers = {now.arms.size(), now.going().size(), now.steps, now.ticks, now.a + 1000, now.b + 1000,
            now.order(), now.orderByPairs(), now.inStep() ? 1 : 0, far == null ? 0 : far[2], now.together,
            saved.size()};
        return (int) numbers[what];
    }

    int setting(int setting) {
        index(0 <= setting && setting <= 2);
        return (int) now.settings[setting];
    }

    int ifRun(int steps, int strength, int what) {
        argument(1 <= steps && steps <= 500 && 0 <= strength && strength <= 99 && 0 <= what && what <= 4);
        State then = now.copy();
        then.settings[1] = strength;
        int ticks = then.go(steps);
        int[] far = then.farthest();
        long[] numbers = {ticks, then.order(), far == null ? 0 : far[2], then.going().size(),
            then.together - now.together};
        return (int) numbers[what];
    }

    int untilStep() {
        State then = now.copy();
        int steps = 0;
        while (steps <= 500 && !then.inStep()) {
            then.step();
            steps++;
        }
        return steps <= 500 ? steps : -1;
    }

    int bestStrength(int steps) {
        argument(1 <= steps && steps <= 300);
        int best = 0;
        for (int strength = 5; strength <= 95; strength += 5) {
            if (ifRun(steps, strength, 1) > ifRun(steps, best, 1)) {
                best = strength;
            }
        }
        return best;
    }

    int stopsIn(int number) {
        index(there(number));
        State then = now.copy();
        int steps = 0;
        while (steps <= 500 && then.arms.get(number).goes()) {
            then.step();
            steps++;
        }
        return steps <= 500 ? steps : -1;
    }

    int farthest(boolean latter) {
        int[] far = now.farthest();
        return far == null ? -1 : far[latter ? 1 : 0];
    }

    double togetherShare() {
        return now.steps == 0 ? 0.0 : 1.0 * now.together / now.steps;
    }

    long digest() {
        List<Long> values = new ArrayList<>();
        for (int i = 0; i < 12; i++) {
            values.add((long) count(i));
        }
        for (long value : now.settings) {
            values.add(value);
        }
        for (int number = 0; number < now.arms.size(); number++) {
            for (int what = 0; what < 9; what++) {
                values.add((long) arm(number, what));
            }
            values.add((long) stopsIn(number));
        }
        for (int one = 0; one < now.arms.size(); one++) {
            for (int other = one + 1; other < now.arms.size(); other++) {
                values.add((long) apart(one, other));
            }
        }
        for (int what = 0; what < 5; what++) {
            values.add((long) ifRun(40, 20, what));
        }
        values.add((long) untilStep());
        values.add((long) bestStrength(50));
        values.add((long) farthest(false));
        values.add((long) farthest(true));
        values.add(Double.doubleToLongBits(togetherShare()));
        for (State slot : slots) {
            values.add(slot == null ? 0L : 1L);
        }
        values.add((long) buffer.length());
        for (char c : buffer.toCharArray()) {
            values.add((long) c);
        }
        long hash = 2999;
        for (long v : values) {
            hash = 31 * hash + v;
        }
        return hash;
    }
}
