import java.util.ArrayDeque;
import java.util.ArrayList;
import java.util.Arrays;
import java.util.Deque;
import java.util.List;
import java.util.regex.Matcher;
import java.util.regex.Pattern;

/**
 * The document said once more, by other means than the class uses, so that both can be held against each other: states
 * are copied whole, groups are found by paths between all clocks, texts are read by a pattern.
 */
final class Model {
    private static final String ORDER = "(?:k[0-7][+-](?:[1-9][0-9]?|[1-4][0-9][0-9]|500)|b[0-7][0-2]|w[0-7]|t[1-9][0-9]?)";
    private static final Pattern ORDERS = Pattern.compile(ORDER + "(?:;" + ORDER + ")*");

    private static final class Clock {
        int beam;
        int speed;
        int phase;
        int spring = 50;
        int strikes;
        int way;
        int kicked;
    }

    private static final class Whole {
        final List<Clock> clocks = new ArrayList<>();
        int[][] near = new int[8][8];
        int[] gives = {4, 4, 4};
        int[] settings = {9, 40, 8};
        int ticks;
        int kicks;
        int loudTicks;
    }

    private Whole state = new Whole();
    private Whole kept = null;
    private final Deque<Whole> saved = new ArrayDeque<>();
    private String buffer = "";

    Model() {
        for (int k = 0; k < 8; k++) {
            Clock c = new Clock();
            c.beam = k % 3;
            c.speed = 30 + k;
            c.phase = 100 * k;
            state.clocks.add(c);
        }
    }

    private static Whole copy(Whole from) {
        Whole to = new Whole();
        for (Clock c : from.clocks) {
            Clock d = new Clock();
            d.beam = c.beam;
            d.speed = c.speed;
            d.phase = c.phase;
            d.spring = c.spring;
            d.strikes = c.strikes;
            d.way = c.way;
            d.kicked = c.kicked;
            to.clocks.add(d);
        }
        for (int k = 0; k < 8; k++) {
            to.near[k] = from.near[k].clone();
        }
        to.gives = from.gives.clone();
        to.settings = from.settings.clone();
        to.ticks = from.ticks;
        to.kicks = from.kicks;
        to.loudTicks = from.loudTicks;
        return to;
    }

    private void save() {
        saved.addLast(copy(state));
        if (saved.size() > 6) {
            saved.removeFirst();
        }
    }

    private static void index(boolean good) {
        if (!good) {
            throw new IndexOutOfBoundsException();
        }
    }

    private static void argument(boolean good) {
        if (!good) {
            throw new IllegalArgumentException();
        }
    }

    private static void state(boolean good) {
        if (!good) {
            throw new IllegalStateException();
        }
    }

    private static boolean in(int value, int least, int most) {
        return least <= value && value <= most;
    }

    private static int gap(Clock from, Clock to) {
        return Math.floorMod(to.phase - from.phase + 500, 1000) - 500;
    }

    private static int pull(Whole w, Clock c) {
        int sum = 0;
        if (c.spring > 0) {
            for (Clock d : w.clocks) {
                if (d != c && d.spring > 0 && d.beam == c.beam) {
                    sum += (int) ((double) (gap(c, d) * w.gives[c.beam]) / 200);
                }
            }
        }
        return sum > w.settings[0] ? w.settings[0] : sum < -w.settings[0] ? -w.settings[0] : sum;
    }

    private static int tick(Whole w) {
        int[] pulls = new int[8];
        for (int k = 0; k < 8; k++) {
            pulls[k] = pull(w, w.clocks.get(k));
        }
        int struck = 0;
        for (int k = 0; k < 8; k++) {
            Clock c = w.clocks.get(k);
            int way = c.spring > 0 && c.speed + pulls[k] > 0 ? c.speed + pulls[k] : 0;
            c.way += way;
            int turns = (c.phase + way) / 1000;
            c.phase = (c.phase + way) % 1000;
            c.spring -= turns;
            c.strikes += turns;
            struck += turns;
        }
        for (int j = 0; j < 8; j++) {
            for (int k = 0; k < 8; k++) {
                Clock c = w.clocks.get(j);
                Clock d = w.clocks.get(k);
                int g = gap(c, d);
                boolean near = c.spring > 0 && d.spring > 0 && c.beam == d.beam && in(g, -w.settings[1], w.settings[1]);
                w.near[j][k] = j < k && near ? w.near[j][k] + 1 : 0;
            }
        }
        w.ticks++;
        w.loudTicks += struck > 0 ? 1 : 0;
        return struck;
    }

    private static int pass(Whole w, int ticks) {
        return ticks == 0 ? 0 : tick(w) + pass(w, ticks - 1);
    }

    private static int nearTicks(Whole w, int j, int k) {
        return j < k ? w.near[j][k] : w.near[k][j];
    }

    private static boolean locked(Whole w, int j, int k) {
        return j != k && nearTicks(w, j, k) >= w.settings[2];
    }

    private static int group(Whole w, int clock) {
        boolean[][] path = new boolean[8][8];
        for (int j = 0; j < 8; j++) {
            for (int k = 0; k < 8; k++) {
                path[j][k] = j == k || locked(w, j, k);
            }
        }
        for (int over = 0; over < 8; over++) {
            for (int j = 0; j < 8; j++) {
                for (int k = 0; k < 8; k++) {
                    path[j][k] |= path[j][over] && path[over][k];
                }
            }
        }
        int mask = 0;
        for (int k = 0; k < 8; k++) {
            mask += path[clock][k] ? 1 << k : 0;
        }
        return mask;
    }

    private static int groups(Whole w) {
        int groups = 0;
        for (int k = 0; k < 8; k++) {
            groups += Integer.numberOfTrailingZeros(group(w, k)) == k ? 1 : 0;
        }
        return groups;
    }

    private static void move(Whole w, int clock, int beam) {
        w.clocks.get(clock).beam = beam;
        for (int k = 0; k < 8; k++) {
            w.near[clock][k] = 0;
            w.near[k][clock] = 0;
        }
    }

    private static int kick(Whole w, int clock, int by) {
        Clock c = w.clocks.get(clock);
        c.phase = (c.phase + by + 1000) % 1000;
        c.kicked += by;
        w.kicks++;
        return c.phase;
    }

    public int pass(int ticks) {
        argument(in(ticks, 1, 200));
        save();
        return pass(state, ticks);
    }

    public int kick(int clock, int by) {
        index(in(clock, 0, 7));
        argument(by != 0 && in(by, -500, 500));
        save();
        return kick(state, clock, by);
    }

    public int move(int clock, int beam) {
        index(in(clock, 0, 7) && in(beam, 0, 2));
        state(state.clocks.get(clock).beam != beam);
        save();
        int others = (int) state.clocks.stream().filter(c -> c.beam == beam).count();
        move(state, clock, beam);
        return others;
    }

    public int wind(int clock) {
        index(in(clock, 0, 7));
        save();
        int more = 99 - state.clocks.get(clock).spring;
        state.clocks.get(clock).spring += more;
        return more;
    }

    public int speed(int clock, int speed) {
        index(in(clock, 0, 7));
        argument(in(speed, 10, 60));
        save();
        int before = state.clocks.get(clock).speed;
        state.clocks.get(clock).speed = speed;
        return before;
    }

    public int give(int beam, int give) {
        index(in(beam, 0, 2));
        argument(in(give, 0, 20));
        save();
        int before = state.gives[beam];
        state.gives[beam] = give;
        return before;
    }

    public int set(int setting, int value) {
        index(in(setting, 0, 2));
        argument(setting == 0 ? in(value, 0, 50) : setting == 1 ? in(value, 0, 200) : in(value, 1, 50));
        save();
        int before = state.settings[setting];
        state.settings[setting] = value;
        return before;
    }

    public int append(int code) {
        argument(in(code, 33, 126));
        state(buffer.length() < 60);
        buffer += (char) code;
        return buffer.length();
    }

    public int clearBuffer() {
        int length = buffer.length();
        buffer = "";
        return length;
    }

    public int firstError() {
        for (int length = 1; length <= buffer.length(); length++) {
            Matcher m = ORDERS.matcher(buffer.substring(0, length));
            if (!m.matches() && !m.hitEnd()) {
                return length - 1;
            }
        }
        return buffer.length();
    }

    public int obey() {
        argument(ORDERS.matcher(buffer).matches());
        save();
        int done = 0;
        for (String order : buffer.split(";")) {
            int clock = order.charAt(1) - '0';
            if (order.startsWith("k")) {
                kick(state, clock, Integer.parseInt(order.substring(2)));
            } else if (order.startsWith("w")) {
                state.clocks.get(clock).spring = 99;
            } else if (order.startsWith("t")) {
                pass(state, Integer.parseInt(order.substring(1)));
            } else {
                int beam = order.charAt(2) - '0';
                if (state.clocks.get(clock).beam == beam) {
                    break;
                }
                move(state, clock, beam);
            }
            done++;
        }
        buffer = "";
        return done;
    }

    public int keep() {
        kept = copy(state);
        return state.ticks;
    }

    public int goBack() {
        state(kept != null);
        save();
        state = copy(kept);
        return state.ticks;
    }

    public int undo() {
        state(!saved.isEmpty());
        state = saved.removeLast();
        return saved.size();
    }

    public int clock(int clock, int what) {
        index(in(clock, 0, 7));
        argument(in(what, 0, 10));
        Clock c = state.clocks.get(clock);
        int locked = 0;
        for (int k = 0; k < 8; k++) {
            locked += locked(state, clock, k) ? 1 << k : 0;
        }
        int group = group(state, clock);
        return new int[] {
            c.beam, c.speed, c.phase, c.spring, c.strikes, pull(state, c), c.way, c.kicked, locked,
            Integer.numberOfTrailingZeros(group), group}[what];
    }

    public int pair(int clock, int other, int what) {
        index(in(clock, 0, 7) && in(other, 0, 7) && clock != other);
        argument(in(what, 0, 2));
        Clock c = state.clocks.get(clock);
        Clock d = state.clocks.get(other);
        int[] g = {gap(c, d), gap(d, c)};
        int why = 4;
        why = Math.max(Math.abs(g[0]), Math.abs(g[1])) > state.settings[1] ? 3 : why;
        why = c.beam != d.beam ? 2 : why;
        why = c.spring * d.spring == 0 ? 1 : why;
        why = locked(state, clock, other) ? 0 : why;
        return new int[] {g[0], nearTicks(state, clock, other), why}[what];
    }

    public int beam(int beam, int what) {
        index(in(beam, 0, 2));
        argument(in(what, 0, 4));
        int[] all = {state.gives[beam], 0, 0, 0, 0};
        for (int k = 0; k < 8; k++) {
            Clock c = state.clocks.get(k);
            if (c.beam == beam) {
                all[1] += 1 << k;
                all[2] += c.spring > 0 ? 1 << k : 0;
                all[3] += pull(state, c);
                for (Clock d : state.clocks) {
                    if (d.beam == beam && c.spring > 0 && d.spring > 0) {
                        all[4] = Math.max(all[4], Math.abs(gap(c, d)));
                    }
                }
            }
        }
        return all[what];
    }

    public int count(int what) {
        argument(in(what, 0, 9));
        int greatest = 0;
        int pairs = 0;
        for (int k = 0; k < 8; k++) {
            greatest = Math.max(greatest, Integer.bitCount(group(state, k)));
            for (int j = 0; j < k; j++) {
                pairs += locked(state, j, k) ? 1 : 0;
            }
        }
        int strikes = state.clocks.stream().mapToInt(c -> c.strikes).sum();
        int going = (int) state.clocks.stream().filter(c -> c.spring > 0).count();
        return new int[] {
            state.ticks, strikes, going, pairs, groups(state), groups(state), greatest, state.kicks, state.loudTicks,
            saved.size()}[what];
    }

    public int setting(int setting) {
        index(in(setting, 0, 2));
        return state.settings[setting];
    }

    public int ifPassed(int ticks, int clock, int what) {
        index(in(clock, 0, 7));
        argument(in(ticks, 1, 200) && in(what, 0, 2));
        Whole then = copy(state);
        pass(then, ticks);
        int strikes = then.clocks.get(clock).strikes - state.clocks.get(clock).strikes;
        return new int[] {then.clocks.get(clock).phase, strikes, group(then, clock)}[what];
    }

    public int lockedIn(int clock, int other) {
        index(in(clock, 0, 7) && in(other, 0, 7) && clock != other);
        Whole then = copy(state);
        int ticks = 0;
        while (!locked(then, clock, other) && ticks <= 500) {
            tick(then);
            ticks++;
        }
        return ticks <= 500 ? ticks : -1;
    }

    public int bestGive(int beam) {
        index(in(beam, 0, 2));
        int best = 20;
        int fewest = 9;
        for (int give = 20; give >= 0; give--) {
            Whole then = copy(state);
            then.gives[beam] = give;
            pass(then, 100);
            if (groups(then) <= fewest) {
                fewest = groups(then);
                best = give;
            }
        }
        return best;
    }

    public int nextStrike() {
        Whole then = copy(state);
        int ticks = 1;
        while (ticks <= 500 && tick(then) == 0) {
            ticks++;
        }
        return ticks <= 500 ? ticks : -1;
    }

    public double stepShare() {
        return count(6) / 8.0;
    }

    public float meanGap() {
        return (float) (beam(0, 4) + beam(1, 4) + beam(2, 4)) / 3;
    }

    public long digest() {
        List<Long> values = new ArrayList<>();
        for (int what = 0; what < 10; what++) {
            values.add((long) count(what));
        }
        Arrays.stream(state.settings).forEach(value -> values.add((long) value));
        for (int k = 0; k < 8; k++) {
            for (int what = 0; what < 11; what++) {
                values.add((long) clock(k, what));
            }
        }
        for (int j = 0; j < 8; j++) {
            for (int k = j + 1; k < 8; k++) {
                for (int what = 0; what < 3; what++) {
                    values.add((long) pair(j, k, what));
                }
            }
        }
        for (int b = 0; b < 3; b++) {
            for (int what = 0; what < 5; what++) {
                values.add((long) beam(b, what));
            }
        }
        for (int k = 0; k < 8; k++) {
            for (int what = 0; what < 3; what++) {
                values.add((long) ifPassed(20, k, what));
            }
        }
        values.add((long) lockedIn(0, 3));
        values.add((long) nextStrike());
        values.add(Double.doubleToLongBits(stepShare()));
        values.add((long) Float.floatToIntBits(meanGap()));
        values.add(kept == null ? 0L : 1L);
        values.add((long) buffer.length());
        buffer.chars().forEach(code -> values.add((long) code));
        return values.stream().reduce(3659L, (hash, value) -> 31 * hash + value);
    }
}
