/** Each sentence of promises 16 to 20 that names a boundary case. */
public final class LooksBoundsTest {
    public static void main(String[] args) {
        promise16Clock();
        promise16What();
        promise16Phase();
        promise16StrikesSoFar();
        promise16Pull();
        promise16Way();
        promise16SumOfKicks();
        promise16Masks();
        promise16LowestOfGroup();
        promise17Clocks();
        promise17What();
        promise17Gap();
        promise17TicksNear();
        promise17WhyFirst();
        promise17WhyNotNear();
        promise17WhyLocked();
        promise17WhyNotLongEnough();
        promise18Beam();
        promise18What();
        promise18Masks();
        promise18SumOfPulls();
        promise18WidestGap();
        promise19What();
        promise19Ticks();
        promise19Strikes();
        promise19ClocksThatGo();
        promise19PairsAndGroups();
        promise19JoinedByAThird();
        promise19Kicks();
        promise19TicksWithAStrike();
        promise19SavedStates();
        promise20Setting();
        looksChangeNothing();
        Bounds.end("LooksBoundsTest", 16, 20);
    }

    // ---- promise 16

    private static void promise16Clock() {
        Bounds.hold("Promise 16", "Throws `IndexOutOfBoundsException` if there is no such clock");
        TandemClocks x = new TandemClocks();
        Checks.due("the least is taken", x.clock(0, 1), 30);
        Checks.due("the most is taken", x.clock(7, 1), 37);
        for (int clock : Bounds.outside(0, 7)) {
            for (int what : new int[] {0, 10}) {
                Bounds.refused("clock(" + clock + ", " + what + ")", Checks.INDEX, y -> y.clock(clock, what));
            }
        }
    }

    private static void promise16What() {
        Bounds.hold("Promise 16", "Throws `IllegalArgumentException` if what is not 0 to 10");
        TandemClocks x = new TandemClocks();
        Checks.due("the least is taken", x.clock(7, 0), 1);
        Checks.due("the most is taken", x.clock(7, 10), 128);
        for (int what : Bounds.outside(0, 10)) {
            Bounds.refused("clock(0, " + what + ")", Checks.ARGUMENT, y -> y.clock(0, what));
            Bounds.refused("clock(7, " + what + ")", Checks.ARGUMENT, y -> y.clock(7, what));
        }
    }

    private static void promise16Phase() {
        Bounds.hold("Promise 16", "2: its phase; 3: its spring");
        TandemClocks x = Checks.withoutPulls();
        Checks.putPhase(x, 6, 999);
        Checks.due("the most", x.clock(6, 2), 999);
        x.pass(1);
        Checks.due("behind a strike", x.clock(6, 2), 35);
        Checks.due("spring behind a strike", x.clock(6, 3), 49);
        Checks.due("the least", x.clock(0, 2), 30);
    }

    private static void promise16StrikesSoFar() {
        Bounds.hold("Promise 16", "4: its strikes so far");
        TandemClocks x = Checks.withoutPulls();
        x.speed(0, 50);
        Checks.due("none", x.clock(0, 4), 0);
        x.pass(19);
        Checks.due("none at 950", x.clock(0, 4), 0);
        x.pass(1);
        Checks.due("one at 1000", x.clock(0, 4), 1);
        x.pass(200);
        Checks.due("11", x.clock(0, 4), 11);
        x.wind(0);
        Checks.due("wound, but as many", x.clock(0, 4), 11);
        Checks.due("run down", Checks.runDown().clock(0, 4), 50);
    }

    private static void promise16Pull() {
        Bounds.hold("Promise 16", "5: the pull that it would have in the next tick, 0 if it does not go");
        TandemClocks x = Bounds.two(20, 90);
        Checks.due("at most 9", x.clock(2, 5), 9);
        Checks.due("at least -9", x.clock(5, 5), -9);
        x.set(0, 8);
        Checks.due("at most 8", x.clock(2, 5), 8);
        Checks.due("at least -8", x.clock(5, 5), -8);
        x.set(0, 0);
        Checks.due("0", x.clock(2, 5), 0);
        TandemClocks slow = Bounds.two(20, -490);
        slow.set(0, 50);
        slow.speed(2, 10);
        Checks.due("more than the speed", slow.clock(2, 5), -49);
        TandemClocks down = Checks.runDown();
        down.give(2, 20);
        Checks.putPhase(down, 2, 0);
        Checks.putPhase(down, 5, 300);
        Checks.due("neither goes", down.clock(2, 5), 0);
        down.wind(5);
        Checks.due("it does not go", down.clock(2, 5), 0);
        Checks.due("the other one does not", down.clock(5, 5), 0);
        down.wind(2);
        Checks.due("both go", down.clock(2, 5), 9);
        Checks.due("both go", down.clock(5, 5), -9);
    }

    private static void promise16Way() {
        Bounds.hold("Promise 16", "6: the way that it went so far, in ticks alone");
        TandemClocks x = Checks.withoutPulls();
        Checks.due("none", x.clock(4, 6), 0);
        x.kick(4, 500);
        x.kick(4, -1);
        Checks.due("not by kicks", x.clock(4, 6), 0);
        x.pass(200);
        Checks.due("not modulo 1000", x.clock(4, 6), 6800);
        Checks.due("not of one that does not go", Bounds.beforeLastStrike(0, 3).ifPassed(200, 0, 0), 0);
    }

    private static void promise16SumOfKicks() {
        Bounds.hold("Promise 16", "7: the sum of its kicks so far");
        TandemClocks x = new TandemClocks();
        Checks.due("none", x.clock(4, 7), 0);
        for (int times = 1; times <= 5; times++) {
            x.kick(4, 500);
            Checks.due("not modulo 1000", x.clock(4, 7), 500 * times);
            x.kick(3, -500);
            Checks.due("below 0", x.clock(3, 7), -500 * times);
        }
        x.kick(5, 7);
        x.kick(5, -7);
        Checks.due("0 again", x.clock(5, 7), 0);
        Checks.due("of another one", x.clock(6, 7), 0);
    }

    private static void promise16Masks() {
        Bounds.hold("Promise 16", "8: the clocks that it is locked with, as a mask (the bit k for the clock k)");
        TandemClocks x = Bounds.inOneRow(0);
        x.pass(7);
        Checks.due("none", x.clock(0, 8), 0);
        x.pass(1);
        for (int clock = 0; clock < 8; clock++) {
            Checks.due("all but itself", x.clock(clock, 8), 255 - (1 << clock));
            Checks.due("group", x.clock(clock, 10), 255);
        }
        for (int clock = 1; clock < 7; clock++) {
            x.move(clock, 1);
        }
        Checks.due("the last bit", x.clock(0, 8), 128);
        Checks.due("the first bit", x.clock(7, 8), 1);
        Checks.due("none", x.clock(3, 8), 0);
    }

    private static void promise16LowestOfGroup() {
        Bounds.hold("Promise 16", "9: the lowest clock of its group; 10: the clocks of its group, as a mask");
        TandemClocks x = Bounds.inOneRow(40);
        for (int clock = 0; clock < 8; clock++) {
            Checks.due("by itself", x.clock(clock, 9), clock);
        }
        x.pass(8);
        for (int clock = 0; clock < 8; clock++) {
            Checks.due("lowest of all", x.clock(clock, 9), 0);
        }
        x.move(0, 1);
        Checks.due("lowest without 0", x.clock(7, 9), 1);
        Checks.due("group without 0", x.clock(7, 10), 254);
        x.move(6, 1);
        Checks.due("last one by itself", x.clock(7, 9), 7);
        Checks.due("last one by itself", x.clock(7, 10), 128);
    }

    // ---- promise 17

    private static void promise17Clocks() {
        Bounds.hold("Promise 17", "Throws `IndexOutOfBoundsException` if there is no such clock, or both are the same");
        TandemClocks x = new TandemClocks();
        Checks.due("the least and the most", x.pair(0, 7, 0), -300);
        Checks.due("the most and the least", x.pair(7, 0, 0), 300);
        for (int clock : Bounds.outside(0, 7)) {
            Bounds.refused("pair(" + clock + ", 0, 0)", Checks.INDEX, y -> y.pair(clock, 0, 0));
            Bounds.refused("pair(7, " + clock + ", 2)", Checks.INDEX, y -> y.pair(7, clock, 2));
            Bounds.refused("pair(" + clock + ", twice, 0)", Checks.INDEX, y -> y.pair(clock, clock, 0));
        }
        for (int k = 0; k < 8; k++) {
            int clock = k;
            Bounds.refused("pair(" + k + ", " + k + ", 0)", Checks.INDEX, y -> y.pair(clock, clock, 0));
        }
    }

    private static void promise17What() {
        Bounds.hold("Promise 17", "Throws `IllegalArgumentException` if what is not 0 to 2");
        TandemClocks x = new TandemClocks();
        Checks.due("the least is taken", x.pair(0, 1, 0), 100);
        Checks.due("the most is taken", x.pair(0, 1, 2), 2);
        for (int what : Bounds.outside(0, 2)) {
            Bounds.refused("pair(0, 7, " + what + ")", Checks.ARGUMENT, y -> y.pair(0, 7, what));
            Bounds.refused("pair(7, 0, " + what + ")", Checks.ARGUMENT, y -> y.pair(7, 0, what));
        }
    }

    private static void promise17Gap() {
        Bounds.hold("Promise 17", "0: the gap from the first one to the other");
        int[] phases = {0, 1, 499, 500, 501, 999};
        int[] there = {0, 1, 499, -500, -499, -1};
        int[] back = {0, -1, -499, -500, 499, 1};
        for (int at = 0; at < phases.length; at++) {
            TandemClocks x = new TandemClocks();
            Checks.putPhase(x, 7, phases[at]);
            Checks.due("from 0 to " + phases[at], x.pair(0, 7, 0), there[at]);
            Checks.due("from " + phases[at] + " to 0", x.pair(7, 0, 0), back[at]);
        }
    }

    private static void promise17TicksNear() {
        Bounds.hold("Promise 17", "1: for how many ticks they have been near");
        TandemClocks x = Bounds.sideBySide(0);
        Checks.due("none passed", x.pair(0, 3, 1), 0);
        x.pass(1);
        Checks.due("one", x.pair(0, 3, 1), 1);
        Checks.due("one, the other way", x.pair(3, 0, 1), 1);
        x.pass(200);
        x.pass(200);
        Checks.due("401", x.pair(0, 3, 1), 401);
        Checks.due("401, the other way", x.pair(3, 0, 1), 401);
    }

    private static void dueWhy(TandemClocks x, int clock, int other, int why) {
        Checks.due("why " + clock + " and " + other, x.pair(clock, other, 2), why);
        Checks.due("why " + other + " and " + clock, x.pair(other, clock, 2), why);
    }

    /** Of clocks 0, 1 and 3 one hangs on another beam; first all of them run down, then they are wound one by one. */
    private static void promise17WhyFirst() {
        Bounds.hold("Promise 17", "otherwise the first of these that is so: 1 one of them does not go, 2 they hang on unlike beams");
        TandemClocks x = Checks.runDown();
        Checks.putPhase(x, 0, 0);
        Checks.putPhase(x, 3, 500);
        Checks.putPhase(x, 1, 0);
        dueWhy(x, 0, 3, 1);
        dueWhy(x, 0, 1, 1);
        x.wind(0);
        dueWhy(x, 0, 3, 1);
        dueWhy(x, 0, 1, 1);
        x.wind(1);
        dueWhy(x, 0, 1, 2);
        dueWhy(x, 1, 3, 1);
        x.wind(3);
        dueWhy(x, 1, 3, 2);
        dueWhy(x, 0, 3, 3);
        x.move(1, 0);
        dueWhy(x, 0, 1, 4);
        dueWhy(x, 1, 3, 3);
    }

    private static void promise17WhyNotNear() {
        Bounds.hold("Promise 17", "3 they are not near now (by their phases and setting 1)");
        for (int widest : new int[] {0, 40, 200}) {
            for (int gap : new int[] {widest, -widest, widest + 1, -widest - 1}) {
                TandemClocks x = Bounds.sideBySide(gap);
                x.set(1, widest);
                dueWhy(x, 0, 3, Math.abs(gap) <= widest ? 4 : 3);
            }
        }
        TandemClocks opposite = Bounds.sideBySide(500);
        opposite.set(1, 200);
        dueWhy(opposite, 0, 3, 3);
    }

    private static void promise17WhyLocked() {
        Bounds.hold("Promise 17", "2: why they are not locked: 0 if they are");
        TandemClocks x = Bounds.sideBySide(40);
        x.pass(7);
        dueWhy(x, 0, 3, 4);
        x.pass(1);
        dueWhy(x, 0, 3, 0);
        x.kick(3, 1);
        dueWhy(x, 0, 3, 0);
        x.set(1, 0);
        dueWhy(x, 0, 3, 0);
        x.set(2, 9);
        dueWhy(x, 0, 3, 3);
        x.set(2, 8);
        x.pass(1);
        dueWhy(x, 0, 3, 3);
    }

    private static void promise17WhyNotLongEnough() {
        Bounds.hold("Promise 17", "4 they have not been near long enough");
        TandemClocks x = Bounds.sideBySide(0);
        dueWhy(x, 0, 3, 4);
        x.set(2, 50);
        x.pass(49);
        dueWhy(x, 0, 3, 4);
        x.pass(1);
        dueWhy(x, 0, 3, 0);
        x.move(3, 1);
        dueWhy(x, 0, 3, 2);
        x.move(3, 0);
        dueWhy(x, 0, 3, 4);
        TandemClocks one = Bounds.sideBySide(0);
        one.set(2, 1);
        dueWhy(one, 0, 3, 4);
        one.pass(1);
        dueWhy(one, 0, 3, 0);
    }

    // ---- promise 18

    private static void promise18Beam() {
        Bounds.hold("Promise 18", "Throws `IndexOutOfBoundsException` if there is no such beam");
        TandemClocks x = new TandemClocks();
        Checks.due("the least is taken", x.beam(0, 1), 73);
        Checks.due("the most is taken", x.beam(2, 1), 36);
        for (int beam : Bounds.outside(0, 2)) {
            Bounds.refused("beam(" + beam + ", 0)", Checks.INDEX, y -> y.beam(beam, 0));
            Bounds.refused("beam(" + beam + ", 4)", Checks.INDEX, y -> y.beam(beam, 4));
        }
    }

    private static void promise18What() {
        Bounds.hold("Promise 18", "Throws `IllegalArgumentException` if what is not 0 to 4");
        TandemClocks x = new TandemClocks();
        Checks.due("the least is taken", x.beam(2, 0), 4);
        Checks.due("the most is taken", x.beam(2, 4), 300);
        for (int what : Bounds.outside(0, 4)) {
            Bounds.refused("beam(0, " + what + ")", Checks.ARGUMENT, y -> y.beam(0, what));
            Bounds.refused("beam(2, " + what + ")", Checks.ARGUMENT, y -> y.beam(2, what));
        }
    }

    private static void promise18Masks() {
        Bounds.hold("Promise 18", "1: the clocks that hang on it, as a mask; 2: those of them that go, as a mask");
        TandemClocks x = Bounds.inOneRow(0);
        Checks.due("all", x.beam(0, 1), 255);
        Checks.due("all go", x.beam(0, 2), 255);
        Checks.due("none", x.beam(1, 1), 0);
        Checks.due("none goes", x.beam(1, 2), 0);
        x.move(0, 1);
        x.move(7, 2);
        Checks.due("the first bit", x.beam(1, 1), 1);
        Checks.due("the last bit", x.beam(2, 2), 128);
        TandemClocks down = Checks.runDown();
        Checks.due("those that hang on it", down.beam(1, 1), 146);
        Checks.due("none goes", down.beam(1, 2), 0);
        down.wind(7);
        Checks.due("one goes", down.beam(1, 2), 128);
        Checks.due("not on another beam", down.beam(0, 2), 0);
        TandemClocks last = Bounds.beforeLastStrike(0, 3);
        Checks.due("a spring of 1", last.beam(0, 2), 73);
        last.pass(1);
        Checks.due("a spring of 0", last.beam(0, 2), 72);
    }

    private static void promise18SumOfPulls() {
        Bounds.hold("Promise 18", "3: the sum of their pulls in the next tick");
        TandemClocks x = Bounds.two(20, -500);
        Checks.due("each is bounded, not the sum", x.beam(2, 3), -18);
        x.set(0, 50);
        Checks.due("each is bounded, not the sum", x.beam(2, 3), -100);
        x.set(0, 0);
        Checks.due("bounded by 0", x.beam(2, 3), 0);
        TandemClocks up = new TandemClocks();
        up.give(2, 20);
        up.move(1, 2);
        Checks.putPhase(up, 1, 100);
        Checks.putPhase(up, 2, 100);
        Checks.putPhase(up, 5, 200);
        Checks.due("9, 9 and -9", up.beam(2, 3), 9);
        TandemClocks all = Bounds.inOneRow(0);
        Checks.due("no clock", all.beam(1, 3), 0);
        all.give(0, 1);
        all.kick(0, 100);
        Checks.due("no whole pull", all.beam(0, 3), 0);
        all.kick(0, 400);
        Checks.due("the first one -14 to -9, the others -2", all.beam(0, 3), -9 - 14);
        TandemClocks last = Bounds.inOneRow(0);
        last.give(0, 1);
        last.kick(7, 500);
        Checks.due("the last one -14 to -9, the others -2", last.beam(0, 3), -9 - 14);
        TandemClocks down = Checks.runDown();
        down.give(2, 20);
        Checks.putPhase(down, 2, 0);
        Checks.putPhase(down, 5, 500);
        down.wind(2);
        Checks.due("one goes", down.beam(2, 3), 0);
        down.wind(5);
        Checks.due("both go", down.beam(2, 3), -18);
    }

    private static void promise18WidestGap() {
        Bounds.hold("Promise 18", "4: the widest gap of two of them that go, without its sign, 0 without two");
        int[] gaps = {0, 1, -1, 499, -499, -500};
        for (int gap : gaps) {
            Checks.due("a gap of " + gap, Bounds.two(4, gap).beam(2, 4), Math.abs(gap));
        }
        for (int clock = 0; clock < 8; clock++) {
            for (int other = clock + 1; other < 8; other++) {
                TandemClocks row = Bounds.inOneRow(0);
                row.move(clock, 2);
                row.move(other, 2);
                row.kick(other, 250);
                Checks.due("the gap of " + clock + " and " + other, row.beam(2, 4), 250);
                Checks.due("no gap of the others", row.beam(0, 4), 0);
            }
        }
        TandemClocks x = new TandemClocks();
        Checks.due("the widest of three: 300, 300, 400", x.beam(0, 4), 400);
        x.move(2, 0);
        x.move(5, 1);
        Checks.due("no clock", x.beam(2, 4), 0);
        x.move(5, 2);
        Checks.due("one clock", x.beam(2, 4), 0);
        TandemClocks down = Checks.runDown();
        Checks.putPhase(down, 2, 0);
        Checks.putPhase(down, 5, 500);
        Checks.due("none goes", down.beam(2, 4), 0);
        down.wind(5);
        Checks.due("one goes", down.beam(2, 4), 0);
        down.wind(2);
        Checks.due("two go", down.beam(2, 4), 500);
    }

    // ---- promise 19

    private static void promise19What() {
        Bounds.hold("Promise 19", "Throws `IllegalArgumentException` if what is not 0 to 9");
        TandemClocks x = new TandemClocks();
        x.pass(3);
        Checks.due("the least is taken", x.count(0), 3);
        Checks.due("the most is taken", x.count(9), 1);
        for (int what : Bounds.outside(0, 9)) {
            Bounds.refused("count(" + what + ")", Checks.ARGUMENT, y -> y.count(what));
        }
    }

    private static void promise19Ticks() {
        Bounds.hold("Promise 19", "0: ticks so far");
        TandemClocks x = Bounds.written("t99;t1");
        Checks.due("none", x.count(0), 0);
        x.pass(1);
        x.pass(200);
        x.obey();
        Checks.due("301", x.count(0), 301);
        x.ifPassed(200, 0, 0);
        x.lockedIn(0, 1);
        x.nextStrike();
        x.bestGive(0);
        Checks.due("none passed by asking", x.count(0), 301);
        TandemClocks down = Checks.runDown();
        down.pass(1);
        Checks.due("also if no clock goes", down.count(0), 1001);
    }

    private static void promise19Strikes() {
        Bounds.hold("Promise 19", "1: strikes of all clocks so far");
        TandemClocks x = Bounds.inOneRow(0);
        x.pass(33);
        Checks.due("none at 990", x.count(1), 0);
        x.pass(1);
        Checks.due("all at once", x.count(1), 8);
        Checks.due("all that were to be", Checks.runDown().count(1), 400);
    }

    private static void promise19ClocksThatGo() {
        Bounds.hold("Promise 19", "2: clocks that go");
        Checks.due("all", new TandemClocks().count(2), 8);
        TandemClocks down = Checks.runDown();
        Checks.due("none", down.count(2), 0);
        down.wind(7);
        Checks.due("one", down.count(2), 1);
        TandemClocks last = Bounds.beforeLastStrike(0, 3);
        Checks.due("a spring of 1", last.count(2), 8);
        last.pass(1);
        Checks.due("a spring of 0", last.count(2), 7);
    }

    private static void promise19PairsAndGroups() {
        Bounds.hold("Promise 19", "3: pairs of locked clocks; 4: groups, told by joining");
        TandemClocks x = Bounds.inOneRow(0);
        x.pass(7);
        dueGroups(x, 0, 8, 1);
        x.pass(1);
        dueGroups(x, 28, 1, 8);
        x.move(7, 1);
        dueGroups(x, 21, 2, 7);
        Bounds.hold("Promise 19", "5: groups, told by walking: from the lowest clock that was in none so far to all that are locked with it, and on");
        TandemClocks chain = Bounds.inOneRow(40);
        chain.pass(8);
        dueGroups(chain, 7, 1, 8);
        chain.move(3, 1);
        dueGroups(chain, 5, 3, 4);
        Bounds.hold("Promise 19", "6: the clocks of the greatest group");
        chain.move(6, 1);
        dueGroups(chain, 3, 5, 3);
        chain.move(1, 1);
        dueGroups(chain, 1, 7, 2);
        chain.move(4, 1);
        dueGroups(chain, 0, 8, 1);
    }

    /** Clocks j and k are locked with the last one of three, and not with each other. */
    private static void promise19JoinedByAThird() {
        Bounds.hold("Promise 19", "at first each clock is a group, and for each pair of locked clocks both groups become one");
        int[][] threes = {{0, 1, 2}, {0, 7, 4}, {6, 7, 0}, {1, 0, 7}, {2, 5, 3}};
        for (int[] three : threes) {
            TandemClocks x = Bounds.inOneRow(0);
            for (int clock = 0; clock < 8; clock++) {
                x.move(clock, 1);
            }
            int[] phases = {0, 80, 40};
            for (int place = 0; place < 3; place++) {
                x.move(three[place], 2);
                Checks.putPhase(x, three[place], phases[place]);
            }
            for (int clock = 0; clock < 8; clock++) {
                if (x.clock(clock, 0) == 1) {
                    Checks.putPhase(x, clock, 110 * clock);
                }
            }
            x.pass(8);
            dueGroups(x, 2, 6, 3);
            dueGroups(x, 2, 6, 3);
            x.set(2, 9);
            dueGroups(x, 0, 8, 1);
        }
    }

    private static void dueGroups(TandemClocks x, int pairs, int groups, int greatest) {
        Checks.due("pairs", x.count(3), pairs);
        Checks.due("groups by joining", x.count(4), groups);
        Checks.due("groups by walking", x.count(5), groups);
        Checks.due("the greatest", x.count(6), greatest);
    }

    private static void promise19Kicks() {
        Bounds.hold("Promise 19", "7: kicks so far");
        TandemClocks x = Bounds.written("k0+5;k0-5;b00;k0+5");
        Checks.due("none", x.count(7), 0);
        x.kick(0, 500);
        Checks.due("one", x.count(7), 1);
        Checks.due("done", x.obey(), 2);
        Checks.due("those that were done", x.count(7), 3);
        x.undo();
        Checks.due("without those undone", x.count(7), 1);
    }

    private static void promise19TicksWithAStrike() {
        Bounds.hold("Promise 19", "8: ticks so far in which some clock struck");
        TandemClocks x = Bounds.inOneRow(0);
        x.pass(33);
        Checks.due("none", x.count(8), 0);
        x.pass(1);
        Checks.due("one tick, eight strikes", x.count(8), 1);
        x.pass(33);
        Checks.due("two ticks, sixteen strikes", x.count(8), 2);
        Checks.due("strikes", x.count(1), 16);
        TandemClocks down = Checks.runDown();
        int before = down.count(8);
        down.pass(200);
        Checks.due("no more", down.count(8), before);
    }

    private static void promise19SavedStates() {
        Bounds.hold("Promise 19", "9: saved states");
        TandemClocks x = new TandemClocks();
        Checks.due("none", x.count(9), 0);
        for (int deed = 1; deed <= 8; deed++) {
            x.wind(0);
            Checks.due("behind " + deed, x.count(9), Math.min(deed, 6));
        }
        x.undo();
        Checks.due("one less", x.count(9), 5);
        x.keep();
        x.append('w');
        x.clearBuffer();
        Checks.due("not by what is not undoable", x.count(9), 5);
    }

    // ---- promise 20

    private static void promise20Setting() {
        Bounds.hold("Promise 20", "- `setting`: 0 to 2");
        TandemClocks x = new TandemClocks();
        x.set(0, 50);
        x.set(1, 200);
        Checks.due("the least is taken", x.setting(0), 50);
        Checks.due("the one between", x.setting(1), 200);
        Checks.due("the most is taken", x.setting(2), 8);
        Bounds.hold("Promise 20", "Throws `IndexOutOfBoundsException` if there is no such setting");
        for (int setting : Bounds.outside(0, 2)) {
            Bounds.refused("setting(" + setting + ")", Checks.INDEX, y -> y.setting(setting));
        }
    }

    private static void looksChangeNothing() {
        Bounds.hold("Terms", "looks; nothing is changed");
        TandemClocks x = Bounds.rich();
        for (int what = 0; what <= 10; what++) {
            x.clock(0, what);
            x.clock(7, what);
        }
        for (int what = 0; what <= 2; what++) {
            x.pair(0, 7, what);
            x.pair(7, 0, what);
            x.setting(what);
        }
        for (int what = 0; what <= 4; what++) {
            x.beam(0, what);
            x.beam(2, what);
        }
        for (int what = 0; what <= 9; what++) {
            x.count(what);
        }
        Checks.dueText("behind all looks", Bounds.told(x), Bounds.told(Bounds.rich()));
    }
}
