/**
 * Metronomes on a rolling board. What each method does is told, as numbered promises, in the
 * document of the project; README.md says how the parts of this file hang together.
 */
public final class BoardMetronomes {
    /** There is nothing to return. */
    public static final int NONE = -1;

    private static final int ARMS = 6;
    private static final int LOWEST_BEAT = 40;
    private static final int HIGHEST_BEAT = 208;
    private static final int ROUND = 3600;
    private static final int HALF_ROUND = 1800;
    private static final int QUARTER_ROUND = 900;
    private static final int HIGHEST_SPRING = 999;
    private static final int SPRING_UNTOLD = 500;

    private static final int SETTINGS = 3;
    private static final int STAY = 0;
    private static final int STRENGTH = 1;
    private static final int NEARNESS = 2;
    private static final int HIGHEST_STAY = 95;
    private static final int HIGHEST_STRENGTH = 99;
    private static final int HIGHEST_NEARNESS = 900;

    private static final int STEPS_AT_ONCE = 500;
    private static final int STEPS_IN_ALL = 99999;
    private static final int STEPS_OF_BEST = 300;
    private static final int BEST_UP_TO = 95;
    private static final int BEST_BY = 5;

    private static final int SLOTS = 2;
    private static final int STATES = 6;
    private static final int TEXT_LENGTH = 60;
    private static final int LOWEST_CODE = 33;
    private static final int HIGHEST_CODE = 126;
    private static final char SEPARATOR = ';';

    private static final int ARM_PROPERTIES = 9;
    private static final int FIGURES = 12;
    private static final int SAVED_FIGURE = 11;
    private static final int OUTCOMES = 5;
    private static final int ABOVE_ZERO = 1000;

    private final Bench now = new Bench();
    private final Bench trial = new Bench();
    private final Bench slotZero = new Bench();
    private final Bench slotOne = new Bench();
    private final boolean[] slotFilled = new boolean[SLOTS];
    private final SavedStates saved = new SavedStates();
    private final Text text = new Text();
    private final OrderReader reader = new OrderReader();

    public BoardMetronomes() {
    }

    // ---- metronomes

    public int metronome(int beat, int phase, int spring)
            throws IllegalArgumentException, IllegalStateException {
        if (!isBeat(beat) || !isWithin(phase, 0, ROUND - 1) || !isSpring(spring)) {
            throw new IllegalArgumentException("beat, phase or spring is out of range");
        }
        if (now.isFull()) {
            throw new IllegalStateException("there are 6 metronomes");
        }
        saved.push(now);
        return now.add(beat, phase, spring);
    }

    public int weigh(int number, int beat) throws IndexOutOfBoundsException, IllegalArgumentException {
        if (!now.has(number)) {
            throw new IndexOutOfBoundsException("no such metronome");
        }
        if (!isBeat(beat)) {
            throw new IllegalArgumentException("beat is out of range");
        }
        saved.push(now);
        return now.changeBeat(number, beat);
    }

    public int wind(int number, int spring) throws IndexOutOfBoundsException, IllegalArgumentException {
        if (!now.has(number)) {
            throw new IndexOutOfBoundsException("no such metronome");
        }
        if (!isSpring(spring)) {
            throw new IllegalArgumentException("spring is out of range");
        }
        saved.push(now);
        return now.changeSpring(number, spring);
    }

    public int hold(int number) throws IndexOutOfBoundsException {
        if (!now.has(number)) {
            throw new IndexOutOfBoundsException("no such metronome");
        }
        saved.push(now);
        return now.holdOrLetGo(number);
    }

    public int take() throws IllegalStateException {
        if (now.isEmpty()) {
            throw new IllegalStateException("there is no metronome");
        }
        saved.push(now);
        return now.removeLast();
    }

    public int run(int steps) throws IllegalArgumentException, IllegalStateException {
        if (!isWithin(steps, 1, STEPS_AT_ONCE)) {
            throw new IllegalArgumentException("steps is out of range");
        }
        if (!now.hasTimeFor(steps)) {
            throw new IllegalStateException("there would be more than 99999 steps");
        }
        saved.push(now);
        return now.letGoBy(steps);
    }

    public int stop() {
        saved.push(now);
        return now.stopBoard();
    }

    public int set(int setting, int value) throws IndexOutOfBoundsException, IllegalArgumentException {
        if (!isSetting(setting)) {
            throw new IndexOutOfBoundsException("no such setting");
        }
        if (!isWithin(value, 0, highestOf(setting))) {
            throw new IllegalArgumentException("value is out of range");
        }
        saved.push(now);
        return now.changeSetting(setting, value);
    }

    // ---- texts, snapshots

    public int append(int code) throws IllegalArgumentException, IllegalStateException {
        if (!isWithin(code, LOWEST_CODE, HIGHEST_CODE)) {
            throw new IllegalArgumentException("code is not 33 to 126");
        }
        if (text.isFull()) {
            throw new IllegalStateException("the buffer has 60 characters");
        }
        return text.add(code);
    }

    public int clearBuffer() {
        return text.empty();
    }

    public int firstError() {
        return readText();
    }

    public int play() throws IllegalArgumentException {
        if (!tellsBench()) {
            throw new IllegalArgumentException("the buffer does not tell a bench");
        }
        saved.push(now);
        reader.beginText();
        int done = 0;
        boolean able = true;
        for (int at = 0; at <= text.size() && able; at++) {
            if (readsEndOfOrder(at)) {
                able = doOrder();
                done += able ? 1 : 0;
            }
        }
        text.empty();
        return done;
    }

    public int keep(int slot) throws IllegalArgumentException {
        if (!isSlot(slot)) {
            throw new IllegalArgumentException("slot is out of range");
        }
        slotBench(slot).copyFrom(now);
        slotFilled[slot] = true;
        return now.steps();
    }

    public int goBack(int slot) throws IllegalArgumentException, IllegalStateException {
        if (!isSlot(slot)) {
            throw new IllegalArgumentException("slot is out of range");
        }
        if (!slotFilled[slot]) {
            throw new IllegalStateException("there is no snapshot in the slot");
        }
        saved.push(now);
        now.copyFrom(slotBench(slot));
        return now.steps();
    }

    public int undo() throws IllegalStateException {
        if (saved.size() == 0) {
            throw new IllegalStateException("there is no saved state");
        }
        return saved.popInto(now);
    }

    // ---- looks; nothing is changed

    public int arm(int number, int what) throws IndexOutOfBoundsException, IllegalArgumentException {
        if (!now.has(number)) {
            throw new IndexOutOfBoundsException("no such metronome");
        }
        if (!isWithin(what, 0, ARM_PROPERTIES - 1)) {
            throw new IllegalArgumentException("what is not 0 to 8");
        }
        return now.property(number, what);
    }

    public int apart(int one, int other) throws IndexOutOfBoundsException, IllegalArgumentException {
        if (!now.has(one) || !now.has(other)) {
            throw new IndexOutOfBoundsException("no such metronome");
        }
        if (one == other) {
            throw new IllegalArgumentException("both are the same");
        }
        return now.distance(one, other);
    }

    public int count(int what) throws IllegalArgumentException {
        if (!isWithin(what, 0, FIGURES - 1)) {
            throw new IllegalArgumentException("what is not 0 to 11");
        }
        return figure(what);
    }

    public int setting(int setting) throws IndexOutOfBoundsException {
        if (!isSetting(setting)) {
            throw new IndexOutOfBoundsException("no such setting");
        }
        return now.settingValue(setting);
    }

    // ---- what would be; nothing is changed, and the limit of steps does not matter

    public int ifRun(int steps, int strength, int what) throws IllegalArgumentException {
        if (!isWithin(steps, 1, STEPS_AT_ONCE) || !isWithin(strength, 0, HIGHEST_STRENGTH)
                || !isWithin(what, 0, OUTCOMES - 1)) {
            throw new IllegalArgumentException("an argument is out of range");
        }
        tryOut(steps, strength);
        return outcome(what);
    }

    public int untilStep() {
        trial.copyFrom(now);
        for (int steps = 0; steps <= STEPS_AT_ONCE; steps++) {
            if (trial.isInStep()) {
                return steps;
            }
            trial.step();
        }
        return NONE;
    }

    public int bestStrength(int steps) throws IllegalArgumentException {
        if (!isWithin(steps, 1, STEPS_OF_BEST)) {
            throw new IllegalArgumentException("steps is out of range");
        }
        return strengthOfGreatestOrder(steps);
    }

    public int stopsIn(int number) throws IndexOutOfBoundsException {
        if (!now.has(number)) {
            throw new IndexOutOfBoundsException("no such metronome");
        }
        return stepsUntilStopped(number);
    }

    public int farthest(boolean latter) {
        return now.farthestOfGoing(latter);
    }

    public double togetherShare() {
        return now.shareTogether();
    }

    public long digest() {
        long hash = 2999L;
        for (int what = 0; what < FIGURES; what++) {
            hash = 31L * hash + figure(what);
        }
        for (int setting = 0; setting < SETTINGS; setting++) {
            hash = 31L * hash + now.settingValue(setting);
        }
        hash = withArms(hash);
        hash = withDistances(hash);
        tryOut(40, 20);
        for (int what = 0; what < OUTCOMES; what++) {
            hash = 31L * hash + outcome(what);
        }
        hash = 31L * hash + untilStep();
        hash = 31L * hash + strengthOfGreatestOrder(50);
        hash = 31L * hash + now.farthestOfGoing(false);
        hash = 31L * hash + now.farthestOfGoing(true);
        hash = 31L * hash + bitsOfShare(now.shareTogether());
        return withSlotsAndText(hash);
    }

    // ---- what the methods above share

    private static boolean isWithin(int value, int lowest, int highest) {
        return value >= lowest && value <= highest;
    }

    private static boolean isBeat(int beat) {
        return isWithin(beat, LOWEST_BEAT, HIGHEST_BEAT);
    }

    private static boolean isSpring(int spring) {
        return isWithin(spring, 0, HIGHEST_SPRING);
    }

    private static boolean isSetting(int setting) {
        return isWithin(setting, 0, SETTINGS - 1);
    }

    private static boolean isSlot(int slot) {
        return isWithin(slot, 0, SLOTS - 1);
    }

    private static int highestOf(int setting) {
        switch (setting) {
            case STAY:
                return HIGHEST_STAY;
            case STRENGTH:
                return HIGHEST_STRENGTH;
            default:
                return HIGHEST_NEARNESS;
        }
    }

    private Bench slotBench(int slot) {
        return slot == 0 ? slotZero : slotOne;
    }

    private int figure(int what) {
        return what == SAVED_FIGURE ? saved.size() : now.figureOf(what);
    }

    /** Reads the text up to its first syntax error, or its end, and tells where that is. */
    private int readText() {
        reader.beginText();
        for (int at = 0; at < text.size(); at++) {
            if (!reader.reads(text.signAt(at))) {
                return at;
            }
        }
        return text.size();
    }

    private boolean tellsBench() {
        return readText() == text.size() && reader.reads(SEPARATOR);
    }

    /** Reads a sign of a text that tells a bench; the end closes the last order as ";" would. */
    private boolean readsEndOfOrder(int at) {
        int sign = at < text.size() ? text.signAt(at) : SEPARATOR;
        return reader.reads(sign) && sign == SEPARATOR;
    }

    /** Does the order that was read last, or tells by false that its method would throw. */
    private boolean doOrder() {
        switch (reader.kind()) {
            case 'm':
                if (now.isFull()) {
                    return false;
                }
                now.add(reader.beat(), reader.phase(), reader.spring());
                return true;
            case 's':
                if (!now.hasTimeFor(reader.number())) {
                    return false;
                }
                now.letGoBy(reader.number());
                return true;
            default:
                if (!now.has(reader.number())) {
                    return false;
                }
                now.holdOrLetGo(reader.number());
                return true;
        }
    }

    /** Leaves in the trial what so many steps with this strength would bring. */
    private void tryOut(int steps, int strength) {
        trial.copyFrom(now);
        trial.changeSetting(STRENGTH, strength);
        for (int i = 0; i < steps; i++) {
            trial.step();
        }
    }

    /** What the trial, as tryOut left it, tells. */
    private int outcome(int what) {
        switch (what) {
            case 0:
                return trial.allTicks() - now.allTicks();
            case 1:
                return trial.order();
            case 2:
                return trial.greatestDistance();
            case 3:
                return trial.going();
            default:
                return trial.stepsTogether() - now.stepsTogether();
        }
    }

    private int strengthOfGreatestOrder(int steps) {
        int best = 0;
        int greatest = NONE;
        for (int strength = 0; strength <= BEST_UP_TO; strength += BEST_BY) {
            tryOut(steps, strength);
            int order = trial.order();
            if (order > greatest) {
                greatest = order;
                best = strength;
            }
        }
        return best;
    }

    private int stepsUntilStopped(int number) {
        trial.copyFrom(now);
        for (int steps = 0; steps <= STEPS_AT_ONCE; steps++) {
            if (!trial.goes(number)) {
                return steps;
            }
            trial.step();
        }
        return NONE;
    }

    private long withArms(long before) {
        long hash = before;
        for (int number = 0; number < now.size(); number++) {
            for (int what = 0; what < ARM_PROPERTIES; what++) {
                hash = 31L * hash + now.property(number, what);
            }
            hash = 31L * hash + stepsUntilStopped(number);
        }
        return hash;
    }

    private long withDistances(long before) {
        long hash = before;
        for (int former = 0; former < now.size(); former++) {
            for (int latter = former + 1; latter < now.size(); latter++) {
                hash = 31L * hash + now.distance(former, latter);
            }
        }
        return hash;
    }

    private long withSlotsAndText(long before) {
        long hash = before;
        for (int slot = 0; slot < SLOTS; slot++) {
            hash = 31L * hash + (slotFilled[slot] ? 1 : 0);
        }
        hash = 31L * hash + text.size();
        for (int at = 0; at < text.size(); at++) {
            hash = 31L * hash + text.signAt(at);
        }
        return hash;
    }

    /**
     * The bits of a double from 0.0 to 1.0. The language of this file leaves no library for them:
     * doubling is exact, so the exponent is counted and the rest is the fraction of 52 bits.
     */
    private static long bitsOfShare(double share) {
        if (share <= 0.0) {
            return 0L;
        }
        double scaled = share;
        long exponent = 1023L;
        for (int i = 0; i < 1022 && scaled < 1.0; i++) {
            scaled = scaled * 2.0;
            exponent--;
        }
        long fraction = (long) ((scaled - 1.0) * (double) (1L << 52));
        return (exponent << 52) + fraction;
    }

    /** All that a snapshot holds: the metronomes, the board, the settings and what is counted. */
    private static final class Bench {
        private final int[] beats = new int[ARMS];
        private final int[] phases = new int[ARMS];
        private final int[] springs = new int[ARMS];
        private final boolean[] held = new boolean[ARMS];
        private final int[] ticks = new int[ARMS];
        private int size;
        private int a;
        private int b;
        private int stay = 50;
        private int strength = 10;
        private int nearness = 50;
        private int steps;
        private int allTicks;
        private int stepsTogether;

        Bench() {
        }

        void copyFrom(Bench other) {
            if (other == null) {
                return;
            }
            for (int i = 0; i < ARMS; i++) {
                beats[i] = other.beats[i];
                phases[i] = other.phases[i];
                springs[i] = other.springs[i];
                held[i] = other.held[i];
                ticks[i] = other.ticks[i];
            }
            size = other.size;
            a = other.a;
            b = other.b;
            stay = other.stay;
            strength = other.strength;
            nearness = other.nearness;
            steps = other.steps;
            allTicks = other.allTicks;
            stepsTogether = other.stepsTogether;
        }

        boolean isFull() {
            return size >= ARMS;
        }

        boolean isEmpty() {
            return size <= 0;
        }

        int size() {
            return size;
        }

        /** Whether there is such a metronome: then the number is an index of each row. */
        boolean has(int number) {
            return number >= 0 && number < ARMS && number < size;
        }

        /** Whether the metronome is there and goes. */
        boolean goes(int number) {
            return number >= 0 && number < ARMS && number < size
                    && !held[number] && springs[number] > 0;
        }

        int going() {
            int going = 0;
            for (int i = 0; i < ARMS; i++) {
                if (goes(i)) {
                    going++;
                }
            }
            return going;
        }

        int add(int beat, int phase, int spring) {
            int number = size;
            if (number < 0 || number >= ARMS) {
                return NONE;
            }
            beats[number] = beat;
            phases[number] = phase;
            springs[number] = spring;
            held[number] = false;
            ticks[number] = 0;
            size++;
            return number;
        }

        int removeLast() {
            if (size > 0) {
                size--;
            }
            return size;
        }

        int changeBeat(int number, int beat) {
            if (!has(number)) {
                return NONE;
            }
            int previous = beats[number];
            beats[number] = beat;
            return previous;
        }

        int changeSpring(int number, int spring) {
            if (!has(number)) {
                return NONE;
            }
            int previous = springs[number];
            springs[number] = spring;
            return previous;
        }

        int holdOrLetGo(int number) {
            if (!has(number)) {
                return NONE;
            }
            held[number] = !held[number];
            return held[number] ? 1 : 0;
        }

        int changeSetting(int setting, int value) {
            int previous = settingValue(setting);
            switch (setting) {
                case STAY:
                    stay = value;
                    break;
                case STRENGTH:
                    strength = value;
                    break;
                default:
                    nearness = value;
                    break;
            }
            return previous;
        }

        int settingValue(int setting) {
            switch (setting) {
                case STAY:
                    return stay;
                case STRENGTH:
                    return strength;
                default:
                    return nearness;
            }
        }

        boolean hasTimeFor(int more) {
            return steps + more <= STEPS_IN_ALL;
        }

        int steps() {
            return steps;
        }

        int allTicks() {
            return allTicks;
        }

        int stepsTogether() {
            return stepsTogether;
        }

        int stopBoard() {
            int sizes = Math.abs(a) + Math.abs(b);
            a = 0;
            b = 0;
            return sizes;
        }

        /** Lets steps go by, and tells how many ticks there are in them. */
        int letGoBy(int count) {
            int before = allTicks;
            for (int i = 0; i < count; i++) {
                step();
            }
            return allTicks - before;
        }

        void step() {
            pushBoard();
            int ticking = 0;
            for (int i = 0; i < ARMS; i++) {
                if (goes(i) && ticksGoingForward(i)) {
                    ticking++;
                }
            }
            steps++;
            allTicks += ticking;
            if (ticking >= 2) {
                stepsTogether++;
            }
        }

        private void pushBoard() {
            int going = going();
            int pushA = going > 0 ? sumOfSwings() / going : 0;
            int pushB = going > 0 ? sumOfTurns() / going : 0;
            a = (a * stay + pushA * (100 - stay)) / 100;
            b = (b * stay + pushB * (100 - stay)) / 100;
        }

        /** Moves a metronome that goes, and tells whether it ticks. */
        private boolean ticksGoingForward(int i) {
            if (!has(i)) {
                return false;
            }
            int phase = phases[i] + beats[i] + pull(phases[i]);
            if (phase < 0) {
                phases[i] = phase + ROUND;
                return false;
            }
            if (phase < ROUND) {
                phases[i] = phase;
                return false;
            }
            phases[i] = phase - ROUND;
            springs[i]--;
            ticks[i]++;
            return true;
        }

        /** The pull on a metronome of this phase that goes, with the board as it is. */
        private int pull(int phase) {
            return strength * (a * swing(quarterOn(phase)) - b * swing(phase)) / 100000;
        }

        private static int swing(int phase) {
            if (phase < HALF_ROUND) {
                return phase * (HALF_ROUND - phase) / 810;
            }
            int rest = phase - HALF_ROUND;
            return -(rest * (HALF_ROUND - rest) / 810);
        }

        /** The phase whose swing is the turn of this one. */
        private static int quarterOn(int phase) {
            return (phase + QUARTER_ROUND) % ROUND;
        }

        private int sumOfSwings() {
            int sum = 0;
            for (int i = 0; i < ARMS; i++) {
                if (goes(i)) {
                    sum += swing(phases[i]);
                }
            }
            return sum;
        }

        private int sumOfTurns() {
            int sum = 0;
            for (int i = 0; i < ARMS; i++) {
                if (goes(i)) {
                    sum += swing(quarterOn(phases[i]));
                }
            }
            return sum;
        }

        int order() {
            int swings = sumOfSwings();
            int turns = sumOfTurns();
            return dividedForOrder(swings * swings + turns * turns);
        }

        private int orderByPairs() {
            int sum = 0;
            for (int i = 0; i < ARMS; i++) {
                for (int j = 0; j < ARMS; j++) {
                    if (goes(i) && goes(j)) {
                        sum += swing(phases[i]) * swing(phases[j])
                                + swing(quarterOn(phases[i])) * swing(quarterOn(phases[j]));
                    }
                }
            }
            return dividedForOrder(sum);
        }

        private int dividedForOrder(int sum) {
            int divisor = 1000 * going() * going();
            return divisor > 0 ? sum / divisor : 0;
        }

        /** By how much two metronomes are apart, going or not. */
        int distance(int one, int other) {
            if (!has(one) || !has(other)) {
                return 0;
            }
            int difference = Math.abs(phases[one] - phases[other]);
            return Math.min(difference, ROUND - difference);
        }

        /** The greatest distance of two that go, 0 without two. */
        int greatestDistance() {
            int greatest = 0;
            for (int i = 0; i < ARMS; i++) {
                for (int j = i + 1; j < ARMS; j++) {
                    if (goes(i) && goes(j)) {
                        greatest = Math.max(greatest, distance(i, j));
                    }
                }
            }
            return greatest;
        }

        /** The former or the latter of the first two that go and are apart most. */
        int farthestOfGoing(boolean latter) {
            int greatest = NONE;
            int found = NONE;
            for (int i = 0; i < ARMS; i++) {
                for (int j = i + 1; j < ARMS; j++) {
                    if (goes(i) && goes(j) && distance(i, j) > greatest) {
                        greatest = distance(i, j);
                        found = latter ? j : i;
                    }
                }
            }
            return found;
        }

        boolean isInStep() {
            return going() >= 2 && greatestDistance() <= nearness;
        }

        double shareTogether() {
            return steps > 0 ? (double) stepsTogether / (double) steps : 0.0;
        }

        int property(int number, int what) {
            if (!has(number)) {
                return NONE;
            }
            switch (what) {
                case 0:
                    return beats[number];
                case 1:
                    return phases[number];
                case 2:
                    return springs[number];
                case 3:
                    return held[number] ? 1 : 0;
                case 4:
                    return goes(number) ? 1 : 0;
                case 5:
                    return ticks[number];
                case 6:
                    return swing(phases[number]) + ABOVE_ZERO;
                case 7:
                    return swing(quarterOn(phases[number])) + ABOVE_ZERO;
                default:
                    return pull(phases[number]) + ABOVE_ZERO;
            }
        }

        /** The figures 0 to 10 that count tells. */
        int figureOf(int what) {
            switch (what) {
                case 0:
                    return size;
                case 1:
                    return going();
                case 2:
                    return steps;
                case 3:
                    return allTicks;
                case 4:
                    return a + ABOVE_ZERO;
                case 5:
                    return b + ABOVE_ZERO;
                case 6:
                    return order();
                case 7:
                    return orderByPairs();
                case 8:
                    return isInStep() ? 1 : 0;
                case 9:
                    return greatestDistance();
                default:
                    return stepsTogether;
            }
        }
    }

    /** The states that undo can restore, the oldest one first. */
    private static final class SavedStates {
        private final Bench[] states = new Bench[STATES];
        private int size;

        SavedStates() {
            for (int i = 0; i < STATES; i++) {
                states[i] = new Bench();
            }
        }

        int size() {
            return size;
        }

        void push(Bench state) {
            if (size >= STATES) {
                dropOldest();
            }
            if (size < 0 || size >= STATES || states[size] == null) {
                return;
            }
            states[size].copyFrom(state);
            size++;
        }

        /** Moves the oldest one behind the others, where it is written over. */
        private void dropOldest() {
            Bench oldest = states[0];
            for (int i = 1; i < STATES; i++) {
                states[i - 1] = states[i];
            }
            states[STATES - 1] = oldest;
            size = STATES - 1;
        }

        int popInto(Bench state) {
            if (state != null && size > 0 && size <= STATES) {
                size--;
                state.copyFrom(states[size]);
            }
            return size;
        }
    }

    /** The buffer. */
    private static final class Text {
        private final int[] signs = new int[TEXT_LENGTH];
        private int size;

        Text() {
        }

        boolean isFull() {
            return size >= TEXT_LENGTH;
        }

        int size() {
            return size;
        }

        int add(int code) {
            if (size >= 0 && size < TEXT_LENGTH) {
                signs[size] = code;
                size++;
            }
            return size;
        }

        int empty() {
            int had = size;
            size = 0;
            return had;
        }

        int signAt(int at) {
            return at >= 0 && at < size && at < TEXT_LENGTH ? signs[at] : NONE;
        }
    }

    /** Reads a bench as a text sign by sign, and keeps the numbers of the order read last. */
    private static final class OrderReader {
        private static final int BEGIN = 0;
        private static final int BEAT = 1;
        private static final int PHASE = 2;
        private static final int SPRING = 3;
        private static final int NUMBER = 4;
        private static final int LONGEST_NUMBER = 4;

        private int place = BEGIN;
        private int lowest;
        private int highest;
        private int value;
        private int digits;
        private int kind;
        private int beat;
        private int phase;
        private int spring;
        private int number;

        OrderReader() {
        }

        void beginText() {
            place = BEGIN;
        }

        /** The letter of the order. */
        int kind() {
            return kind;
        }

        int beat() {
            return beat;
        }

        int phase() {
            return phase;
        }

        int spring() {
            return spring;
        }

        /** The steps of "s", or the metronome of "h". */
        int number() {
            return number;
        }

        /** Reads a sign, or tells by false that it is a syntax error. */
        boolean reads(int sign) {
            if (place == BEGIN) {
                return readsLetter(sign);
            }
            if (sign >= '0' && sign <= '9') {
                return readsDigit(sign - '0');
            }
            return digits > 0 && value >= lowest && readsEndOfNumber(sign);
        }

        private boolean readsLetter(int letter) {
            kind = letter;
            switch (letter) {
                case 'm':
                    return expectNumber(BEAT, LOWEST_BEAT, HIGHEST_BEAT);
                case 's':
                    return expectNumber(NUMBER, 1, STEPS_AT_ONCE);
                case 'h':
                    return expectNumber(NUMBER, 0, ARMS - 1);
                default:
                    return false;
            }
        }

        private boolean expectNumber(int nextPlace, int nextLowest, int nextHighest) {
            place = nextPlace;
            lowest = nextLowest;
            highest = nextHighest;
            value = 0;
            digits = 0;
            return true;
        }

        private boolean readsDigit(int digit) {
            boolean leadingZero = digits > 0 && value == 0;
            int longer = value * 10 + digit;
            if (leadingZero || !leadsIntoRange(longer)) {
                return false;
            }
            value = longer;
            digits++;
            return true;
        }

        /** Whether a number from the lowest to the highest one begins with these digits. */
        private boolean leadsIntoRange(int begin) {
            if (begin == 0) {
                return lowest == 0;
            }
            int least = begin;
            int greatest = begin;
            for (int i = 0; i < LONGEST_NUMBER; i++) {
                if (least <= highest && greatest >= lowest) {
                    return true;
                }
                least = least * 10;
                greatest = greatest * 10 + 9;
            }
            return false;
        }

        private boolean readsEndOfNumber(int sign) {
            switch (place) {
                case BEAT:
                    beat = value;
                    return sign == '@' && expectNumber(PHASE, 0, ROUND - 1);
                case PHASE:
                    phase = value;
                    spring = SPRING_UNTOLD;
                    if (sign == '*') {
                        return expectNumber(SPRING, 1, HIGHEST_SPRING);
                    }
                    break;
                case SPRING:
                    spring = value;
                    break;
                default:
                    number = value;
                    break;
            }
            place = BEGIN;
            return sign == SEPARATOR;
        }
    }
}
