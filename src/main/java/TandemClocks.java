public final class TandemClocks {
    public static final int NONE = -1;

    private static final int CLOCKS = 8;
    private static final int BEAMS = 3;
    private static final int SETTINGS = 3;

    private static final int TURN = 1000;
    private static final int HALF_TURN = 500;
    private static final int PULL_DIVISOR = 200;

    private static final int FIRST_SPEED = 30;
    private static final int LEAST_SPEED = 10;
    private static final int MOST_SPEED = 60;
    private static final int FIRST_SPRING = 50;
    private static final int WOUND_SPRING = 99;
    private static final int FIRST_GIVE = 4;
    private static final int MOST_GIVE = 20;
    private static final int MOST_KICK = 500;

    private static final int GREATEST_PULL = 0;
    private static final int WIDEST_NEAR_GAP = 1;
    private static final int TICKS_TO_LOCK = 2;

    private static final int MOST_TICKS_OF_A_CALL = 200;
    private static final int MOST_TICKS_OF_AN_ORDER = 99;
    private static final int TICKS_AHEAD = 500;
    private static final int TICKS_FOR_BEST_GIVE = 100;
    private static final int TICKS_FOR_DIGEST = 20;

    private static final int MOST_CODES = 60;
    private static final int LEAST_CODE = 33;
    private static final int MOST_CODE = 126;
    private static final int MOST_SAVED = 6;

    private static final int LAST_OF_CLOCK = 10;
    private static final int LAST_OF_PAIR = 2;
    private static final int LAST_OF_BEAM = 4;
    private static final int LAST_OF_COUNT = 9;
    private static final int LAST_OF_IF_PASSED = 2;

    private static final long FIRST_HASH = 3659;
    private static final int DOUBLE_FRACTION_BITS = 52;
    private static final int DOUBLE_BIAS = 1023;
    private static final int FLOAT_FRACTION_BITS = 23;
    private static final int FLOAT_BIAS = 127;

    private final State now;
    private final State trial;
    private final State snapshot;
    private final History history;
    private final OrderText text;
    private boolean hasSnapshot;

    public TandemClocks() {
        now = new State();
        trial = new State();
        snapshot = new State();
        history = new History();
        text = new OrderText();
    }

    // ---- changes

    public int pass(int ticks) throws IllegalArgumentException {
        if (!areTicksOfACall(ticks)) {
            throw new IllegalArgumentException("ticks are 1 to 200");
        }
        history.save(now);
        return now.letPass(ticks);
    }

    public int kick(int clock, int by) throws IndexOutOfBoundsException, IllegalArgumentException {
        if (!isClock(clock)) {
            throw new IndexOutOfBoundsException("no such clock");
        }
        if (by == 0 || by < -MOST_KICK || by > MOST_KICK) {
            throw new IllegalArgumentException("a kick is -500 to 500, but not 0");
        }
        history.save(now);
        now.kickBy(clock, by);
        return now.phases[clock];
    }

    public int move(int clock, int beam) throws IndexOutOfBoundsException, IllegalStateException {
        if (!isClock(clock)) {
            throw new IndexOutOfBoundsException("no such clock");
        }
        if (!isBeam(beam)) {
            throw new IndexOutOfBoundsException("no such beam");
        }
        if (now.hangsOn(clock, beam)) {
            throw new IllegalStateException("the clock hangs on this beam already");
        }
        history.save(now);
        now.hangOn(clock, beam);
        return Integer.bitCount(now.maskOfBeam(beam)) - 1;
    }

    public int wind(int clock) throws IndexOutOfBoundsException {
        if (!isClock(clock)) {
            throw new IndexOutOfBoundsException("no such clock");
        }
        history.save(now);
        int before = now.springs[clock];
        now.windUp(clock);
        return now.springs[clock] - before;
    }

    public int speed(int clock, int speed) throws IndexOutOfBoundsException, IllegalArgumentException {
        if (!isClock(clock)) {
            throw new IndexOutOfBoundsException("no such clock");
        }
        if (speed < LEAST_SPEED || speed > MOST_SPEED) {
            throw new IllegalArgumentException("a speed is 10 to 60");
        }
        history.save(now);
        int before = now.speeds[clock];
        now.speeds[clock] = speed;
        return before;
    }

    public int give(int beam, int give) throws IndexOutOfBoundsException, IllegalArgumentException {
        if (!isBeam(beam)) {
            throw new IndexOutOfBoundsException("no such beam");
        }
        if (give < 0 || give > MOST_GIVE) {
            throw new IllegalArgumentException("a give is 0 to 20");
        }
        history.save(now);
        int before = now.gives[beam];
        now.gives[beam] = give;
        return before;
    }

    public int set(int setting, int value) throws IndexOutOfBoundsException, IllegalArgumentException {
        if (!isSetting(setting)) {
            throw new IndexOutOfBoundsException("no such setting");
        }
        if (value < leastOfSetting(setting) || value > mostOfSetting(setting)) {
            throw new IllegalArgumentException("the setting has no such value");
        }
        history.save(now);
        int before = now.settings[setting];
        now.settings[setting] = value;
        return before;
    }

    // ---- texts, the snapshot

    public int append(int code) throws IllegalArgumentException, IllegalStateException {
        if (code < LEAST_CODE || code > MOST_CODE) {
            throw new IllegalArgumentException("a character code is 33 to 126");
        }
        if (text.isFull()) {
            throw new IllegalStateException("the buffer has 60 characters");
        }
        text.add(code);
        return text.length;
    }

    public int clearBuffer() {
        int before = text.length;
        text.empty();
        return before;
    }

    public int firstError() {
        return text.indexOfError();
    }

    public int obey() throws IllegalArgumentException {
        if (!text.isComplete()) {
            throw new IllegalArgumentException("the buffer is not complete orders");
        }
        history.save(now);
        int done = 0;
        boolean isDoable = true;
        text.startReading();
        for (int at = 0; at < text.length && isDoable; at++) {
            text.takes(text.codeAt(at));
            if (text.endsOrderBehind(at)) {
                isDoable = doesOrder();
                done += isDoable ? 1 : 0;
            }
        }
        text.empty();
        return done;
    }

    public int keep() {
        snapshot.copyFrom(now);
        hasSnapshot = true;
        return now.ticks;
    }

    public int goBack() throws IllegalStateException {
        if (!hasSnapshot) {
            throw new IllegalStateException("there is no snapshot");
        }
        history.save(now);
        now.copyFrom(snapshot);
        return now.ticks;
    }

    public int undo() throws IllegalStateException {
        if (history.isEmpty()) {
            throw new IllegalStateException("there is no saved state");
        }
        history.restoreLatest(now);
        return history.size;
    }

    // ---- looks; nothing is changed

    public int clock(int clock, int what) throws IndexOutOfBoundsException, IllegalArgumentException {
        if (!isClock(clock)) {
            throw new IndexOutOfBoundsException("no such clock");
        }
        if (what < 0 || what > LAST_OF_CLOCK) {
            throw new IllegalArgumentException("what is 0 to 10");
        }
        return now.numberOfClock(clock, what);
    }

    public int pair(int clock, int other, int what) throws IndexOutOfBoundsException, IllegalArgumentException {
        if (!isPair(clock, other)) {
            throw new IndexOutOfBoundsException("no such two clocks");
        }
        if (what < 0 || what > LAST_OF_PAIR) {
            throw new IllegalArgumentException("what is 0 to 2");
        }
        return now.numberOfPair(clock, other, what);
    }

    public int beam(int beam, int what) throws IndexOutOfBoundsException, IllegalArgumentException {
        if (!isBeam(beam)) {
            throw new IndexOutOfBoundsException("no such beam");
        }
        if (what < 0 || what > LAST_OF_BEAM) {
            throw new IllegalArgumentException("what is 0 to 4");
        }
        return now.numberOfBeam(beam, what);
    }

    public int count(int what) throws IllegalArgumentException {
        if (what < 0 || what > LAST_OF_COUNT) {
            throw new IllegalArgumentException("what is 0 to 9");
        }
        return now.numberOfAll(what, history.size);
    }

    public int setting(int setting) throws IndexOutOfBoundsException {
        if (!isSetting(setting)) {
            throw new IndexOutOfBoundsException("no such setting");
        }
        return now.settings[setting];
    }

    // ---- what would be; nothing is changed

    public int ifPassed(int ticks, int clock, int what) throws IndexOutOfBoundsException, IllegalArgumentException {
        if (!isClock(clock)) {
            throw new IndexOutOfBoundsException("no such clock");
        }
        if (!areTicksOfACall(ticks)) {
            throw new IllegalArgumentException("ticks are 1 to 200");
        }
        if (what < 0 || what > LAST_OF_IF_PASSED) {
            throw new IllegalArgumentException("what is 0 to 2");
        }
        tryTicks(ticks);
        return triedNumber(clock, what);
    }

    public int lockedIn(int clock, int other) throws IndexOutOfBoundsException {
        if (!isPair(clock, other)) {
            throw new IndexOutOfBoundsException("no such two clocks");
        }
        return ticksUntilLocked(clock, other);
    }

    public int bestGive(int beam) throws IndexOutOfBoundsException {
        if (!isBeam(beam)) {
            throw new IndexOutOfBoundsException("no such beam");
        }
        int best = 0;
        int fewest = CLOCKS + 1;
        for (int give = 0; give <= MOST_GIVE; give++) {
            int groups = groupsWithGive(beam, give);
            if (groups < fewest) {
                fewest = groups;
                best = give;
            }
        }
        return best;
    }

    public int nextStrike() {
        trial.copyFrom(now);
        for (int ticks = 1; ticks <= TICKS_AHEAD; ticks++) {
            if (trial.tick() > 0) {
                return ticks;
            }
        }
        return NONE;
    }

    public double stepShare() {
        return (double) now.greatestGroup() / CLOCKS;
    }

    public float meanGap() {
        int sum = 0;
        for (int beam = 0; beam < BEAMS; beam++) {
            sum += now.widestGap(beam);
        }
        return (float) sum / BEAMS;
    }

    public long digest() {
        long hash = hashOfCounts(FIRST_HASH);
        hash = hashOfParts(hash);
        tryTicks(TICKS_FOR_DIGEST);
        hash = hashOfTrial(hash);
        hash = hashWith(hash, ticksUntilLocked(0, 3));
        hash = hashWith(hash, nextStrike());
        hash = hashWith(hash, bitsOfDouble(stepShare()));
        hash = hashWith(hash, bitsOfFloat(meanGap()));
        hash = hashWith(hash, hasSnapshot ? 1 : 0);
        return hashOfText(hash);
    }

    // ---- what calls may name

    private static boolean isClock(int clock) {
        return clock >= 0 && clock < CLOCKS;
    }

    private static boolean isPair(int clock, int other) {
        return isClock(clock) && isClock(other) && clock != other;
    }

    private static boolean isBeam(int beam) {
        return beam >= 0 && beam < BEAMS;
    }

    private static boolean isSetting(int setting) {
        return setting >= 0 && setting < SETTINGS;
    }

    private static boolean areTicksOfACall(int ticks) {
        return ticks >= 1 && ticks <= MOST_TICKS_OF_A_CALL;
    }

    private static int leastOfSetting(int setting) {
        return setting == TICKS_TO_LOCK ? 1 : 0;
    }

    private static int mostOfSetting(int setting) {
        return setting == WIDEST_NEAR_GAP ? 200 : 50;
    }

    // ---- orders

    private boolean doesOrder() {
        int clock = text.clock;
        int number = text.number;
        switch (text.letter) {
            case 'k':
                now.kickBy(clock, text.isBackwards ? -number : number);
                return true;
            case 'b':
                if (!isBeam(number) || now.hangsOn(clock, number)) {
                    return false;
                }
                now.hangOn(clock, number);
                return true;
            case 'w':
                now.windUp(clock);
                return true;
            default:
                now.letPass(number);
                return true;
        }
    }

    // ---- what would be

    private void tryTicks(int ticks) {
        trial.copyFrom(now);
        trial.letPass(ticks);
    }

    private int triedNumber(int clock, int what) {
        switch (what) {
            case 0:
                return trial.phases[clock];
            case 1:
                return trial.strikes[clock] - now.strikes[clock];
            default:
                return trial.groupMask(clock);
        }
    }

    private int ticksUntilLocked(int clock, int other) {
        trial.copyFrom(now);
        for (int ticks = 0; ticks < TICKS_AHEAD; ticks++) {
            if (trial.areLocked(clock, other)) {
                return ticks;
            }
            trial.tick();
        }
        return trial.areLocked(clock, other) ? TICKS_AHEAD : NONE;
    }

    private int groupsWithGive(int beam, int give) {
        trial.copyFrom(now);
        trial.gives[beam] = give;
        trial.letPass(TICKS_FOR_BEST_GIVE);
        return trial.groupsByJoining();
    }

    // ---- the digest

    private static long hashWith(long hash, long value) {
        return 31 * hash + value;
    }

    private long hashOfCounts(long start) {
        long hash = start;
        for (int what = 0; what <= LAST_OF_COUNT; what++) {
            hash = hashWith(hash, now.numberOfAll(what, history.size));
        }
        for (int setting = 0; setting < SETTINGS; setting++) {
            hash = hashWith(hash, now.settings[setting]);
        }
        return hash;
    }

    private long hashOfParts(long start) {
        long hash = start;
        for (int clock = 0; clock < CLOCKS; clock++) {
            for (int what = 0; what <= LAST_OF_CLOCK; what++) {
                hash = hashWith(hash, now.numberOfClock(clock, what));
            }
        }
        for (int clock = 0; clock < CLOCKS; clock++) {
            for (int other = clock + 1; other < CLOCKS; other++) {
                for (int what = 0; what <= LAST_OF_PAIR; what++) {
                    hash = hashWith(hash, now.numberOfPair(clock, other, what));
                }
            }
        }
        for (int beam = 0; beam < BEAMS; beam++) {
            for (int what = 0; what <= LAST_OF_BEAM; what++) {
                hash = hashWith(hash, now.numberOfBeam(beam, what));
            }
        }
        return hash;
    }

    private long hashOfTrial(long start) {
        long hash = start;
        for (int clock = 0; clock < CLOCKS; clock++) {
            for (int what = 0; what <= LAST_OF_IF_PASSED; what++) {
                hash = hashWith(hash, triedNumber(clock, what));
            }
        }
        return hash;
    }

    private long hashOfText(long start) {
        long hash = hashWith(start, text.length);
        for (int at = 0; at < text.length; at++) {
            hash = hashWith(hash, text.codeAt(at));
        }
        return hash;
    }

    // LANGUAGE.md leaves no Double or Float, so both bits are found by
    // doubling and halving, which is exact for the shares that come here:
    // a step share is 1/8 to 1, a mean gap 0 to 500.
    private static long bitsOfDouble(double share) {
        double part = share;
        long power = DOUBLE_BIAS;
        for (int step = 0; step < DOUBLE_BIAS && part < 1; step++) {
            part = part * 2;
            power--;
        }
        long fraction = (long) ((part - 1) * (1L << DOUBLE_FRACTION_BITS));
        return (power << DOUBLE_FRACTION_BITS) + fraction;
    }

    private static int bitsOfFloat(float share) {
        if (!(share > 0)) {
            return 0;
        }
        float part = share;
        int power = FLOAT_BIAS;
        for (int step = 0; step < FLOAT_BIAS && part >= 2; step++) {
            part = part / 2;
            power++;
        }
        for (int step = 0; step < FLOAT_BIAS && part < 1; step++) {
            part = part * 2;
            power--;
        }
        int fraction = (int) ((part - 1) * (1 << FLOAT_FRACTION_BITS));
        return (power << FLOAT_FRACTION_BITS) + fraction;
    }

    // All that undo() restores, so that saving, the snapshot and a trial
    // are each one copy.
    private static final class State {
        private final int[] beams = new int[CLOCKS];
        private final int[] speeds = new int[CLOCKS];
        private final int[] phases = new int[CLOCKS];
        private final int[] springs = new int[CLOCKS];
        private final int[] strikes = new int[CLOCKS];
        private final int[] ways = new int[CLOCKS];
        private final int[] kickSums = new int[CLOCKS];
        private final int[] nearTicks = new int[CLOCKS * CLOCKS];
        private final int[] gives = new int[BEAMS];
        private final int[] settings = new int[SETTINGS];
        private int ticks;
        private int kicks;
        private int strikeTicks;

        // Rows to work in, made once so that no call makes any.
        private final int[] pulls = new int[CLOCKS];
        private final int[] leaders = new int[CLOCKS];

        State() {
            for (int clock = 0; clock < CLOCKS; clock++) {
                beams[clock] = clock % BEAMS;
                speeds[clock] = FIRST_SPEED + clock;
                phases[clock] = 100 * clock;
                springs[clock] = FIRST_SPRING;
            }
            for (int beam = 0; beam < BEAMS; beam++) {
                gives[beam] = FIRST_GIVE;
            }
            settings[GREATEST_PULL] = 9;
            settings[WIDEST_NEAR_GAP] = 40;
            settings[TICKS_TO_LOCK] = 8;
        }

        void copyFrom(State other) {
            System.arraycopy(other.beams, 0, beams, 0, CLOCKS);
            System.arraycopy(other.speeds, 0, speeds, 0, CLOCKS);
            System.arraycopy(other.phases, 0, phases, 0, CLOCKS);
            System.arraycopy(other.springs, 0, springs, 0, CLOCKS);
            System.arraycopy(other.strikes, 0, strikes, 0, CLOCKS);
            System.arraycopy(other.ways, 0, ways, 0, CLOCKS);
            System.arraycopy(other.kickSums, 0, kickSums, 0, CLOCKS);
            System.arraycopy(other.nearTicks, 0, nearTicks, 0, CLOCKS * CLOCKS);
            System.arraycopy(other.gives, 0, gives, 0, BEAMS);
            System.arraycopy(other.settings, 0, settings, 0, SETTINGS);
            ticks = other.ticks;
            kicks = other.kicks;
            strikeTicks = other.strikeTicks;
        }

        // ---- deeds

        int letPass(int count) {
            int struck = 0;
            for (int passed = 0; passed < count; passed++) {
                struck += tick();
            }
            return struck;
        }

        int tick() {
            for (int clock = 0; clock < CLOCKS; clock++) {
                pulls[clock] = pullOf(clock);
            }
            int struck = goOn();
            lookAtPairs();
            ticks++;
            if (struck > 0) {
                strikeTicks++;
            }
            return struck;
        }

        private int goOn() {
            int struck = 0;
            for (int clock = 0; clock < CLOCKS; clock++) {
                if (goes(clock) && strikesBy(clock, Math.max(0, speeds[clock] + pulls[clock]))) {
                    struck++;
                }
            }
            return struck;
        }

        private boolean strikesBy(int clock, int way) {
            ways[clock] += way;
            phases[clock] += way;
            if (phases[clock] < TURN) {
                return false;
            }
            phases[clock] -= TURN;
            springs[clock]--;
            strikes[clock]++;
            return true;
        }

        private void lookAtPairs() {
            for (int clock = 0; clock < CLOCKS; clock++) {
                for (int other = clock + 1; other < CLOCKS; other++) {
                    boolean near = goes(clock) && goes(other) && hangTogether(clock, other) && areNear(clock, other);
                    setTicksNear(clock, other, near ? nearTicks[clock * CLOCKS + other] + 1 : 0);
                }
            }
        }

        private void setTicksNear(int clock, int other, int count) {
            nearTicks[clock * CLOCKS + other] = count;
            nearTicks[other * CLOCKS + clock] = count;
        }

        void kickBy(int clock, int by) {
            phases[clock] = Math.floorMod(phases[clock] + by, TURN);
            kickSums[clock] += by;
            kicks++;
        }

        void hangOn(int clock, int beam) {
            beams[clock] = beam;
            for (int other = 0; other < CLOCKS; other++) {
                setTicksNear(clock, other, 0);
            }
        }

        void windUp(int clock) {
            springs[clock] = WOUND_SPRING;
        }

        // ---- clocks and pairs of them

        boolean goes(int clock) {
            return springs[clock] > 0;
        }

        boolean hangsOn(int clock, int beam) {
            return beams[clock] == beam;
        }

        private boolean hangTogether(int clock, int other) {
            return beams[clock] == beams[other];
        }

        private int pullOf(int clock) {
            int beam = beams[clock];
            if (!goes(clock) || !isBeam(beam)) {
                return 0;
            }
            int sum = 0;
            for (int other = 0; other < CLOCKS; other++) {
                if (other != clock && goes(other) && hangsOn(other, beam)) {
                    sum += gapFrom(clock, other) * gives[beam] / PULL_DIVISOR;
                }
            }
            int most = settings[GREATEST_PULL];
            return Math.max(-most, Math.min(most, sum));
        }

        private int gapFrom(int clock, int other) {
            int gap = phases[other] - phases[clock];
            if (gap >= HALF_TURN) {
                return gap - TURN;
            }
            return gap < -HALF_TURN ? gap + TURN : gap;
        }

        private boolean areNear(int clock, int other) {
            return Math.abs(gapFrom(clock, other)) <= settings[WIDEST_NEAR_GAP];
        }

        boolean areLocked(int clock, int other) {
            return nearTicks[clock * CLOCKS + other] >= settings[TICKS_TO_LOCK];
        }

        private int whyNotLocked(int clock, int other) {
            if (areLocked(clock, other)) {
                return 0;
            }
            if (!goes(clock) || !goes(other)) {
                return 1;
            }
            if (!hangTogether(clock, other)) {
                return 2;
            }
            return areNear(clock, other) ? 4 : 3;
        }

        // ---- groups

        private int lockedMask(int clock) {
            int mask = 0;
            for (int other = 0; other < CLOCKS; other++) {
                if (other != clock && areLocked(clock, other)) {
                    mask |= 1 << other;
                }
            }
            return mask;
        }

        int groupMask(int clock) {
            int group = 1 << clock;
            for (int step = 1; step < CLOCKS; step++) {
                for (int member = 0; member < CLOCKS; member++) {
                    if (isIn(group, member)) {
                        group |= lockedMask(member);
                    }
                }
            }
            return group;
        }

        private static boolean isIn(int mask, int clock) {
            return (mask & 1 << clock) != 0;
        }

        private int lowestOfGroup(int clock) {
            int group = groupMask(clock);
            int lowest = 0;
            while (lowest < clock && !isIn(group, lowest)) {
                lowest++;
            }
            return lowest;
        }

        int groupsByJoining() {
            for (int clock = 0; clock < CLOCKS; clock++) {
                leaders[clock] = clock;
            }
            int groups = CLOCKS;
            for (int clock = 0; clock < CLOCKS; clock++) {
                for (int other = clock + 1; other < CLOCKS; other++) {
                    if (areLocked(clock, other) && leaders[clock] != leaders[other]) {
                        join(leaders[clock], leaders[other]);
                        groups--;
                    }
                }
            }
            return groups;
        }

        private void join(int leader, int joined) {
            for (int clock = 0; clock < CLOCKS; clock++) {
                if (leaders[clock] == joined) {
                    leaders[clock] = leader;
                }
            }
        }

        private int groupsByWalking() {
            int groups = 0;
            int met = 0;
            for (int clock = 0; clock < CLOCKS; clock++) {
                if (!isIn(met, clock)) {
                    met |= groupMask(clock);
                    groups++;
                }
            }
            return groups;
        }

        int greatestGroup() {
            int greatest = 0;
            for (int clock = 0; clock < CLOCKS; clock++) {
                greatest = Math.max(greatest, Integer.bitCount(groupMask(clock)));
            }
            return greatest;
        }

        private int lockedPairs() {
            int pairs = 0;
            for (int clock = 0; clock < CLOCKS; clock++) {
                for (int other = clock + 1; other < CLOCKS; other++) {
                    if (areLocked(clock, other)) {
                        pairs++;
                    }
                }
            }
            return pairs;
        }

        // ---- beams

        int maskOfBeam(int beam) {
            int mask = 0;
            for (int clock = 0; clock < CLOCKS; clock++) {
                if (hangsOn(clock, beam)) {
                    mask |= 1 << clock;
                }
            }
            return mask;
        }

        private int goingMask() {
            int mask = 0;
            for (int clock = 0; clock < CLOCKS; clock++) {
                if (goes(clock)) {
                    mask |= 1 << clock;
                }
            }
            return mask;
        }

        private int pullsOfBeam(int beam) {
            int sum = 0;
            for (int clock = 0; clock < CLOCKS; clock++) {
                if (hangsOn(clock, beam)) {
                    sum += pullOf(clock);
                }
            }
            return sum;
        }

        int widestGap(int beam) {
            int going = maskOfBeam(beam) & goingMask();
            int widest = 0;
            for (int clock = 0; clock < CLOCKS; clock++) {
                for (int other = clock + 1; other < CLOCKS; other++) {
                    if (isIn(going, clock) && isIn(going, other)) {
                        widest = Math.max(widest, Math.abs(gapFrom(clock, other)));
                    }
                }
            }
            return widest;
        }

        // ---- numbers that are told

        int numberOfClock(int clock, int what) {
            switch (what) {
                case 0:
                    return beams[clock];
                case 1:
                    return speeds[clock];
                case 2:
                    return phases[clock];
                case 3:
                    return springs[clock];
                case 4:
                    return strikes[clock];
                case 5:
                    return pullOf(clock);
                case 6:
                    return ways[clock];
                case 7:
                    return kickSums[clock];
                case 8:
                    return lockedMask(clock);
                case 9:
                    return lowestOfGroup(clock);
                default:
                    return groupMask(clock);
            }
        }

        int numberOfPair(int clock, int other, int what) {
            switch (what) {
                case 0:
                    return gapFrom(clock, other);
                case 1:
                    return nearTicks[clock * CLOCKS + other];
                default:
                    return whyNotLocked(clock, other);
            }
        }

        int numberOfBeam(int beam, int what) {
            switch (what) {
                case 0:
                    return gives[beam];
                case 1:
                    return maskOfBeam(beam);
                case 2:
                    return maskOfBeam(beam) & goingMask();
                case 3:
                    return pullsOfBeam(beam);
                default:
                    return widestGap(beam);
            }
        }

        int numberOfAll(int what, int savedStates) {
            switch (what) {
                case 0:
                    return ticks;
                case 1:
                    return strikesOfAll();
                case 2:
                    return Integer.bitCount(goingMask());
                case 3:
                    return lockedPairs();
                case 4:
                    return groupsByJoining();
                case 5:
                    return groupsByWalking();
                case 6:
                    return greatestGroup();
                case 7:
                    return kicks;
                case 8:
                    return strikeTicks;
                default:
                    return savedStates;
            }
        }

        private int strikesOfAll() {
            int sum = 0;
            for (int clock = 0; clock < CLOCKS; clock++) {
                sum += strikes[clock];
            }
            return sum;
        }
    }

    private static final class History {
        private final State[] saved = new State[MOST_SAVED];
        private int size;

        History() {
            for (int place = 0; place < MOST_SAVED; place++) {
                saved[place] = new State();
            }
        }

        boolean isEmpty() {
            return size <= 0;
        }

        void save(State state) {
            if (size >= MOST_SAVED) {
                dropOldest();
            }
            saved[size].copyFrom(state);
            size++;
        }

        // The oldest one's object comes last, to be written over next.
        private void dropOldest() {
            State oldest = saved[0];
            for (int place = 1; place < MOST_SAVED; place++) {
                saved[place - 1] = saved[place];
            }
            saved[MOST_SAVED - 1] = oldest;
            size = MOST_SAVED - 1;
        }

        void restoreLatest(State state) {
            if (isEmpty()) {
                return;
            }
            size--;
            state.copyFrom(saved[size]);
        }
    }

    // What may stand next in an order as a text.
    private enum Due { LETTER, CLOCK, SIGN, BEAM, FIRST_DIGIT, MORE_DIGITS, END }

    private static final class OrderText {
        private final int[] codes = new int[MOST_CODES];
        private int length;

        private Due due = Due.LETTER;
        private int letter;
        private int clock;
        private boolean isBackwards;
        private int number;

        boolean isFull() {
            return length >= MOST_CODES;
        }

        void add(int code) {
            if (isFull()) {
                return;
            }
            codes[length] = code;
            length++;
        }

        void empty() {
            length = 0;
        }

        int codeAt(int at) {
            return at >= 0 && at < length ? codes[at] : 0;
        }

        int indexOfError() {
            startReading();
            for (int at = 0; at < length; at++) {
                if (!takes(codeAt(at))) {
                    return at;
                }
            }
            return length;
        }

        boolean isComplete() {
            return indexOfError() == length && (due == Due.END || due == Due.MORE_DIGITS);
        }

        boolean endsOrderBehind(int at) {
            return at + 1 >= length || codeAt(at + 1) == ';';
        }

        void startReading() {
            due = Due.LETTER;
        }

        boolean takes(int code) {
            switch (due) {
                case LETTER:
                    return takesLetter(code);
                case CLOCK:
                    return takesClock(code);
                case SIGN:
                    return takesSign(code);
                case BEAM:
                    return takesBeam(code);
                case FIRST_DIGIT:
                    return takesFirstDigit(code);
                case MORE_DIGITS:
                    return code == ';' ? takesEnd(code) : takesNextDigit(code);
                default:
                    return takesEnd(code);
            }
        }

        private boolean takesLetter(int code) {
            if (code != 'k' && code != 'b' && code != 'w' && code != 't') {
                return false;
            }
            letter = code;
            due = code == 't' ? Due.FIRST_DIGIT : Due.CLOCK;
            return true;
        }

        private boolean takesClock(int code) {
            if (!isClock(code - '0')) {
                return false;
            }
            clock = code - '0';
            if (letter == 'k') {
                due = Due.SIGN;
            } else {
                due = letter == 'b' ? Due.BEAM : Due.END;
            }
            return true;
        }

        private boolean takesSign(int code) {
            if (code != '+' && code != '-') {
                return false;
            }
            isBackwards = code == '-';
            due = Due.FIRST_DIGIT;
            return true;
        }

        private boolean takesBeam(int code) {
            if (!isBeam(code - '0')) {
                return false;
            }
            number = code - '0';
            due = Due.END;
            return true;
        }

        private boolean takesFirstDigit(int code) {
            if (code < '1' || code > '9') {
                return false;
            }
            number = code - '0';
            due = Due.MORE_DIGITS;
            return true;
        }

        private boolean takesNextDigit(int code) {
            if (code < '0' || code > '9') {
                return false;
            }
            int longer = number * 10 + code - '0';
            if (longer > (letter == 'k' ? MOST_KICK : MOST_TICKS_OF_AN_ORDER)) {
                return false;
            }
            number = longer;
            return true;
        }

        private boolean takesEnd(int code) {
            if (code != ';') {
                return false;
            }
            due = Due.LETTER;
            return true;
        }
    }
}
