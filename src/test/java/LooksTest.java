/** Promises 16 to 20: looks, which change nothing. */
public final class LooksTest {
    public static void main(String[] args) {
        promise16Clock();
        promise16PullsRoundTowardsZero();
        promise16Groups();
        promise16LongestChains();
        promise16Wrong();
        promise17Gap();
        promise17NearAndLocked();
        promise17WhyNotLocked();
        promise17RunDown();
        promise17Wrong();
        promise18Beam();
        promise18WithoutTwo();
        promise18Wrong();
        promise19Count();
        promise19Wrong();
        promise20Setting();
        nothingIsChanged();
        Checks.end("LooksTest");
    }

    private static void promise16Clock() {
        TandemClocks x = new TandemClocks();
        x.move(0, 1);
        x.speed(0, 40);
        x.kick(0, -20);
        x.kick(0, 5);
        x.wind(0);
        int[] wanted = {1, 40, 985, 99, 0, 2 + 8 - 5, 0, -15, 0, 0, 1};
        for (int what = 0; what <= 10; what++) {
            Checks.due("number " + what, x.clock(0, what), wanted[what]);
        }
        x.pass(1);
        Checks.due("phase", x.clock(0, 2), 30);
        Checks.due("spring", x.clock(0, 3), 98);
        Checks.due("strikes", x.clock(0, 4), 1);
        Checks.due("way", x.clock(0, 6), 45);
        Checks.due("kicks", x.clock(0, 7), -15);
    }

    /** Clocks 2 and 5 hang on beam 2: the pull is gap * give / 200 then. */
    private static void promise16PullsRoundTowardsZero() {
        TandemClocks x = new TandemClocks();
        x.give(2, 1);
        Checks.putPhase(x, 5, 599);
        Checks.due("399 / 200", x.clock(2, 5), 1);
        Checks.due("-399 / 200", x.clock(5, 5), -1);
        Checks.putPhase(x, 5, 600);
        Checks.due("400 / 200", x.clock(2, 5), 2);
        Checks.due("-400 / 200", x.clock(5, 5), -2);
        x.move(1, 2);
        Checks.putPhase(x, 1, 350);
        Checks.putPhase(x, 5, 350);
        x.give(2, 2);
        Checks.due("each division by itself: 1 and 1", x.clock(2, 5), 2);
        x.give(2, 20);
        Checks.due("at most setting 0", x.clock(2, 5), 9);
        Checks.due("at least 0 less setting 0", x.clock(5, 5), -9);
        x.set(0, 0);
        Checks.due("setting 0 is 0", x.clock(5, 5), 0);
        TandemClocks down = Checks.runDown();
        down.give(2, 20);
        down.wind(2);
        Checks.putPhase(down, 2, 0);
        Checks.putPhase(down, 5, 300);
        Checks.due("one that does not go pulls none", down.clock(2, 5), 0);
        Checks.due("one that does not go has no pull", down.clock(5, 5), 0);
        down.wind(5);
        Checks.due("both go", down.clock(2, 5), 9);
    }

    /** Clocks 0, 3 and 6 in a chain: 0 and 6 are both locked with 3, but not with each other. */
    private static TandemClocks chain() {
        TandemClocks x = Checks.withoutPulls();
        int[] clocks = {6, 0, 3};
        for (int place = 0; place < 3; place++) {
            x.speed(clocks[place], 30);
            Checks.putPhase(x, clocks[place], 30 * place);
        }
        x.speed(1, 44);
        x.speed(4, 44);
        x.speed(7, 44);
        Checks.putPhase(x, 4, 120);
        x.pass(8);
        return x;
    }

    private static void promise16Groups() {
        TandemClocks x = chain();
        Checks.due("0 is locked with", x.clock(0, 8), 8 + 64);
        Checks.due("3 is locked with", x.clock(3, 8), 1);
        Checks.due("6 is locked with", x.clock(6, 8), 1);
        Checks.due("1 is locked with", x.clock(1, 8), 16);
        int[] lowest = {0, 1, 2, 0, 1, 5, 0, 7};
        int[] masks = {73, 18, 4, 73, 18, 32, 73, 128};
        for (int k = 0; k < 8; k++) {
            Checks.due("lowest of the group of " + k, x.clock(k, 9), lowest[k]);
            Checks.due("group of " + k, x.clock(k, 10), masks[k]);
        }
        Checks.due("pairs of locked clocks", x.count(3), 3);
        Checks.due("groups by joining", x.count(4), 5);
        Checks.due("groups by walking", x.count(5), 5);
        Checks.due("clocks of the greatest group", x.count(6), 3);
        x.move(0, 2);
        Checks.due("group of 3 without 0", x.clock(3, 10), 8);
        Checks.due("groups by joining", x.count(4), 7);
        Checks.due("groups by walking", x.count(5), 7);
        Checks.due("clocks of the greatest group", x.count(6), 2);
    }

    /** All eight clocks in one chain, by their numbers and crosswise, so that each end is seven steps from the other. */
    private static void promise16LongestChains() {
        int[][] orders = {{0, 1, 2, 3, 4, 5, 6, 7}, {7, 6, 5, 4, 3, 2, 1, 0}, {3, 7, 0, 5, 1, 6, 2, 4}};
        for (int[] order : orders) {
            TandemClocks x = Checks.withoutPulls();
            for (int place = 0; place < 8; place++) {
                if (x.clock(order[place], 0) != 0) {
                    x.move(order[place], 0);
                }
                x.speed(order[place], 30);
                Checks.putPhase(x, order[place], 30 * place);
            }
            x.pass(8);
            Checks.due("pairs of a chain", x.count(3), 7);
            Checks.due("groups by joining", x.count(4), 1);
            Checks.due("groups by walking", x.count(5), 1);
            Checks.due("clocks of the greatest group", x.count(6), 8);
            for (int k = 0; k < 8; k++) {
                Checks.due("group of " + k, x.clock(k, 10), 255);
                Checks.due("lowest of the group of " + k, x.clock(k, 9), 0);
            }
            Checks.due("group behind one tick more", x.ifPassed(1, 0, 2), 255);
        }
    }

    private static void promise16Wrong() {
        TandemClocks x = new TandemClocks();
        for (int what : new int[] {-1, 11, Integer.MIN_VALUE, Integer.MAX_VALUE}) {
            Checks.dueThrow("clock(0, " + what + ")", x, Checks.ARGUMENT, () -> x.clock(0, what));
            Checks.dueThrow("clock(8, " + what + ")", x, Checks.INDEX, () -> x.clock(8, what));
        }
        for (int clock : new int[] {-1, 8, Integer.MIN_VALUE, Integer.MAX_VALUE}) {
            Checks.dueThrow("clock(" + clock + ", 0)", x, Checks.INDEX, () -> x.clock(clock, 0));
        }
    }

    private static void promise17Gap() {
        TandemClocks x = new TandemClocks();
        int[] phases = {0, 499, 500, 501, 999, 1};
        int[] gaps = {0, 499, -500, -499, -1, 1};
        int[] back = {0, -499, -500, 499, 1, -1};
        for (int at = 0; at < phases.length; at++) {
            Checks.putPhase(x, 7, phases[at]);
            Checks.due("gap from 0 to " + phases[at], x.pair(0, 7, 0), gaps[at]);
            Checks.due("gap from " + phases[at] + " to 0", x.pair(7, 0, 0), back[at]);
        }
    }

    private static void promise17NearAndLocked() {
        TandemClocks x = Checks.withoutPulls();
        x.speed(3, 30);
        Checks.putPhase(x, 3, 960);
        Checks.due("no tick looked yet", x.pair(0, 3, 1), 0);
        Checks.due("near, but not long enough", x.pair(0, 3, 2), 4);
        x.pass(7);
        Checks.due("near for 7 ticks", x.pair(3, 0, 1), 7);
        Checks.due("not long enough", x.pair(3, 0, 2), 4);
        x.pass(1);
        Checks.due("near for 8 ticks", x.pair(0, 3, 1), 8);
        Checks.due("locked", x.pair(0, 3, 2), 0);
        Checks.due("locked, told the other way", x.pair(3, 0, 2), 0);
        x.kick(3, -1);
        x.give(0, 1);
        x.wind(0);
        Checks.due("locked until the next tick", x.pair(0, 3, 2), 0);
        x.give(0, 0);
        x.pass(1);
        Checks.due("a gap of 41", x.pair(0, 3, 0), -41);
        Checks.due("not near any more", x.pair(0, 3, 1), 0);
        Checks.due("not near now", x.pair(0, 3, 2), 3);
        Checks.due("clocks of unlike beams are near for 0 ticks", x.pair(0, 7, 1), 0);
    }

    private static void promise17WhyNotLocked() {
        TandemClocks x = Checks.withoutPulls();
        Checks.due("unlike beams", x.pair(0, 1, 2), 2);
        Checks.due("not near", x.pair(0, 3, 2), 3);
        Checks.putPhase(x, 3, 41);
        Checks.due("not near at 41", x.pair(0, 3, 2), 3);
        Checks.putPhase(x, 3, 40);
        Checks.due("near at 40", x.pair(0, 3, 2), 4);
        Checks.putPhase(x, 3, 960);
        Checks.due("near at -40", x.pair(0, 3, 2), 4);
        Checks.putPhase(x, 3, 959);
        Checks.due("not near at -41", x.pair(0, 3, 2), 3);
    }

    /** Clock 0 strikes first and runs down, and the pair is not near from that very tick on. */
    private static void promise17RunDown() {
        TandemClocks x = Checks.withoutPulls();
        x.speed(0, 50);
        x.speed(3, 50);
        Checks.putPhase(x, 3, 990);
        x.wind(3);
        for (int times = 0; times < 4; times++) {
            x.pass(200);
        }
        x.pass(199);
        Checks.due("both go", x.pair(0, 3, 1), 999);
        Checks.due("locked", x.pair(0, 3, 2), 0);
        x.pass(1);
        Checks.due("spring of 0", x.clock(0, 3), 0);
        Checks.due("gap", x.pair(0, 3, 0), -10);
        Checks.due("near for 0 ticks", x.pair(0, 3, 1), 0);
        Checks.due("one does not go", x.pair(0, 3, 2), 1);
        Checks.due("one does not go, told the other way", x.pair(3, 0, 2), 1);
        Checks.due("first of the reasons", x.pair(0, 1, 2), 1);
        Checks.due("beam 0 has two that go", x.beam(0, 2), 72);
        x.wind(0);
        Checks.due("not near long enough", x.pair(0, 3, 2), 4);
    }

    private static void promise17Wrong() {
        TandemClocks x = new TandemClocks();
        for (int what : new int[] {-1, 3, Integer.MIN_VALUE, Integer.MAX_VALUE}) {
            Checks.dueThrow("pair(0, 1, " + what + ")", x, Checks.ARGUMENT, () -> x.pair(0, 1, what));
            Checks.dueThrow("pair(1, 1, " + what + ")", x, Checks.INDEX, () -> x.pair(1, 1, what));
        }
        for (int clock : new int[] {-1, 8, 5, Integer.MIN_VALUE, Integer.MAX_VALUE}) {
            Checks.dueThrow("pair(" + clock + ", 5, 0)", x, Checks.INDEX, () -> x.pair(clock, 5, 0));
            Checks.dueThrow("pair(5, " + clock + ", 0)", x, Checks.INDEX, () -> x.pair(5, clock, 0));
            Checks.dueThrow("pair(" + clock + " twice)", x, Checks.INDEX, () -> x.pair(clock, clock, 0));
        }
    }

    private static void promise18Beam() {
        TandemClocks x = new TandemClocks();
        int[][] wanted = {{4, 73, 73, 0, 400}, {4, 146, 146, 0, 400}, {4, 36, 36, 0, 300}};
        for (int beam = 0; beam < 3; beam++) {
            for (int what = 0; what <= 4; what++) {
                Checks.due("beam " + beam + " number " + what, x.beam(beam, what), wanted[beam][what]);
            }
        }
        Checks.putPhase(x, 2, 0);
        Checks.due("a gap of -500 is 500 wide", x.beam(2, 4), 500);
        Checks.due("both are pulled back", x.beam(2, 3), -18);
        x.set(0, 50);
        Checks.due("both are pulled back", x.beam(2, 3), -20);
    }

    private static void promise18WithoutTwo() {
        TandemClocks x = Checks.runDown();
        x.wind(2);
        x.wind(0);
        Checks.putPhase(x, 2, 0);
        Checks.putPhase(x, 5, 300);
        Checks.due("those that hang on it", x.beam(2, 1), 36);
        Checks.due("those that go", x.beam(2, 2), 4);
        Checks.due("one that goes", x.beam(2, 4), 0);
        Checks.due("none that goes", x.beam(1, 4), 0);
        Checks.due("none that goes", x.beam(1, 2), 0);
        x.wind(5);
        Checks.due("two that go", x.beam(2, 4), 300);
        x.move(2, 1);
        x.move(5, 1);
        Checks.due("no clock", x.beam(2, 1), 0);
        Checks.due("no clock", x.beam(2, 3), 0);
        Checks.due("no clock", x.beam(2, 4), 0);
    }

    private static void promise18Wrong() {
        TandemClocks x = new TandemClocks();
        for (int what : new int[] {-1, 5, Integer.MIN_VALUE, Integer.MAX_VALUE}) {
            Checks.dueThrow("beam(0, " + what + ")", x, Checks.ARGUMENT, () -> x.beam(0, what));
            Checks.dueThrow("beam(3, " + what + ")", x, Checks.INDEX, () -> x.beam(3, what));
        }
        for (int beam : new int[] {-1, 3, Integer.MIN_VALUE, Integer.MAX_VALUE}) {
            Checks.dueThrow("beam(" + beam + ", 0)", x, Checks.INDEX, () -> x.beam(beam, 0));
        }
    }

    private static void promise19Count() {
        TandemClocks x = Checks.withoutPulls();
        Checks.putPhase(x, 6, 950);
        Checks.putPhase(x, 7, 980);
        x.speed(6, 50);
        x.pass(1);
        Checks.due("two struck in one tick", x.count(1), 2);
        Checks.due("but it is one tick", x.count(8), 1);
        x.pass(1);
        Checks.due("none struck in this one", x.count(8), 1);
        Checks.due("ticks", x.count(0), 2);
        Checks.due("clocks that go", x.count(2), 8);
        Checks.due("kicks", x.count(7), 2);
        Checks.due("saved states", x.count(9), 6);
        x.undo();
        Checks.due("saved states", x.count(9), 5);
        Checks.due("ticks", x.count(0), 1);
        x.undo();
        Checks.due("strikes", x.count(1), 0);
        Checks.due("ticks with strikes", x.count(8), 0);
        TandemClocks down = Checks.runDown();
        Checks.due("clocks that go", down.count(2), 0);
        Checks.due("strikes of all", down.count(1), 400);
    }

    private static void promise19Wrong() {
        TandemClocks x = new TandemClocks();
        for (int what : new int[] {-1, 10, Integer.MIN_VALUE, Integer.MAX_VALUE}) {
            Checks.dueThrow("count(" + what + ")", x, Checks.ARGUMENT, () -> x.count(what));
        }
    }

    private static void promise20Setting() {
        TandemClocks x = new TandemClocks();
        x.set(0, 11);
        x.set(1, 22);
        x.set(2, 33);
        for (int setting = 0; setting < 3; setting++) {
            Checks.due("setting " + setting, x.setting(setting), 11 * (setting + 1));
        }
        for (int setting : new int[] {-1, 3, Integer.MIN_VALUE, Integer.MAX_VALUE}) {
            Checks.dueThrow("setting(" + setting + ")", x, Checks.INDEX, () -> x.setting(setting));
        }
    }

    private static void nothingIsChanged() {
        TandemClocks x = chain();
        long before = x.digest();
        for (int what = 0; what <= 10; what++) {
            x.clock(3, what);
        }
        for (int what = 0; what <= 4; what++) {
            x.beam(0, what);
        }
        for (int what = 0; what <= 9; what++) {
            x.count(what);
        }
        x.pair(0, 3, 2);
        Checks.due("digest behind looks", x.digest(), before);
    }
}
