/** Each sentence of promises 2 to 27 that names no boundary case, or not it alone. */
public final class PlainPromisesTest {
    private interface Ask {
        long answer(TandemClocks x, int number);
    }

    private interface Deed {
        void to(TandemClocks x);
    }

    public static void main(String[] args) {
        promise2LetsTicksPass();
        promise3Kick();
        promise4Move();
        promise5Wind();
        promise6Speed();
        promise7Give();
        promise8Set();
        promise12HowManyAreDone();
        promise16Clock();
        promise17Pair();
        promise18Beam();
        promise19Count();
        promise20Setting();
        promise21IfPassed();
        promise22LockedIn();
        promise23BestGive();
        promise24NextStrike();
        promise25StepShare();
        promise26MeanGap();
        promise27WholeState();
        promise27InOrder();
        promise27Values();
        Checks.under("");
        Checks.end("PlainPromisesTest");
    }

    /** The answers for 0, 1 and on are these, each of a new object; numbers outside are no clock, beam or setting. */
    private static void dueForEach(Bounds.Make make, String call, Ask ask, int... answers) {
        for (int number = 0; number < answers.length; number++) {
            Checks.due(call + " of " + number, ask.answer(make.made(), number), answers[number]);
        }
        for (int number : Bounds.outside(0, answers.length - 1)) {
            Bounds.refusedBy(make, call + " of " + number, Checks.INDEX, x -> ask.answer(x, number));
        }
    }

    // ---- all of a state that is not found from the rest of it

    private static final int OF_A_CLOCK = 7;
    private static final int NEAR = 8 * OF_A_CLOCK;
    private static final int GIVES = NEAR + 8 * 8;
    private static final int SETTINGS = GIVES + 3;
    private static final int COUNTS = SETTINGS + 3;
    private static final int KICKS = COUNTS + 2;

    /** Beam, speed, phase, spring, strikes, way and kicks of each clock; ticks near; gives; settings; four counts. */
    private static int[] state(TandemClocks x) {
        int[] all = new int[COUNTS + 4];
        int[] numbers = {0, 1, 2, 3, 4, 6, 7};
        int[] counts = {0, 1, 7, 8};
        for (int clock = 0; clock < 8; clock++) {
            for (int at = 0; at < numbers.length; at++) {
                all[clock * OF_A_CLOCK + at] = x.clock(clock, numbers[at]);
            }
            for (int other = 0; other < 8; other++) {
                all[NEAR + clock * 8 + other] = clock == other ? 0 : x.pair(clock, other, 1);
            }
        }
        for (int k = 0; k < 3; k++) {
            all[GIVES + k] = x.beam(k, 0);
            all[SETTINGS + k] = x.setting(k);
        }
        for (int at = 0; at < counts.length; at++) {
            all[COUNTS + at] = x.count(counts[at]);
        }
        return all;
    }

    /** All clocks hang on beam 0 but 4, and are locked with each other; all have struck and were kicked. */
    private static TandemClocks lively() {
        TandemClocks x = Bounds.inOneRow(5);
        x.kick(0, 17);
        x.pass(40);
        x.move(4, 1);
        x.give(0, 3);
        x.pass(3);
        return x;
    }

    /** The deed changes the state at these places, to the value behind each of them, and nowhere else. */
    private static void dueChange(String what, Deed deed, int... placesAndValues) {
        int[] wanted = state(lively());
        for (int at = 0; at < placesAndValues.length; at += 2) {
            Checks.due(what + " changes place " + placesAndValues[at], wanted[placesAndValues[at]] != placesAndValues[at + 1] ? 1 : 0, 1);
            wanted[placesAndValues[at]] = placesAndValues[at + 1];
        }
        TandemClocks x = lively();
        deed.to(x);
        dueState(what, state(x), wanted);
    }

    private static void dueState(String what, int[] got, int[] wanted) {
        for (int place = 0; place < wanted.length; place++) {
            Checks.due(what + ", place " + place + " of the state", got[place], wanted[place]);
        }
    }

    private static int ofClock(int clock, int at) {
        return clock * OF_A_CLOCK + at;
    }

    // ---- changes

    private static void promise2LetsTicksPass() {
        Bounds.hold("Promise 2", "Lets ticks pass.");
        for (int ticks : new int[] {1, 2, 37, 200}) {
            TandemClocks x = lively();
            TandemClocks one = lively();
            int struck = 0;
            for (int passed = 0; passed < ticks; passed++) {
                struck += one.pass(1);
            }
            Checks.due("strikes of " + ticks, x.pass(ticks), struck);
            dueState(ticks + " ticks at once", state(x), state(one));
            Checks.due("ticks", x.count(0), 43 + ticks);
        }
    }

    private static void promise3Kick() {
        Bounds.hold("Promise 3", "- `clock`: 0 to 7");
        dueForEach(TandemClocks::new, "kick by 5", (x, clock) -> x.kick(clock, 5), 5, 105, 205, 305, 405, 505, 605, 705);
        Bounds.hold("Promise 3", "Kicks a clock, whether it goes or not: its phase becomes more by a number, modulo 1000 (from 0 to 999).");
        TandemClocks x = lively();
        int phase = Math.floorMod(x.clock(6, 2) - 123, 1000);
        int kicked = x.clock(6, 7) - 123;
        int kicks = x.count(7) + 1;
        dueChange("kick(6, -123)", y -> y.kick(6, -123), ofClock(6, 2), phase, ofClock(6, 6), kicked, KICKS, kicks);
    }

    private static void promise4Move() {
        Bounds.hold("Promise 4", "Moves a clock to a beam.");
        int[] changes = new int[2 + 4 * 6];
        changes[0] = ofClock(5, 0);
        changes[1] = 2;
        int at = 2;
        for (int other = 0; other < 8; other++) {
            if (other != 5 && other != 4) {
                changes[at] = NEAR + 5 * 8 + other;
                changes[at + 2] = NEAR + other * 8 + 5;
                at += 4;
            }
        }
        dueChange("move(5, 2)", x -> x.move(5, 2), changes);
        Bounds.hold("Promise 4", "- `clock`: 0 to 7");
        dueForEach(TandemClocks::new, "move to the next beam", (x, clock) -> x.move(clock, Math.floorMod(clock + 1, 3)), 3, 2, 3, 3, 2, 3, 3, 2);
        Bounds.hold("Promise 4", "- `beam`: 0 to 2");
        dueForEach(TandemClocks::new, "move to", (x, beam) -> x.move(beam == 0 ? 1 : 0, beam), 3, 3, 2);
        for (int beam = 0; beam < 3; beam++) {
            TandemClocks x = new TandemClocks();
            x.move(beam == 0 ? 1 : 0, beam);
            Checks.due("its beam", x.clock(beam == 0 ? 1 : 0, 0), beam);
        }
    }

    private static void promise5Wind() {
        Bounds.hold("Promise 5", "Winds a clock: its spring is 99 then.");
        dueChange("wind(3)", x -> x.wind(3), ofClock(3, 3), 99);
        Bounds.hold("Promise 5", "- `clock`: 0 to 7");
        dueForEach(PlainPromisesTest::struckUnalike, "wind", (x, clock) -> x.wind(clock), 50, 51, 52, 53, 54, 55, 56, 57);
    }

    /** Clock k has struck k + 1 times, at phases where the others could not; nothing pulls. */
    private static TandemClocks struckUnalike() {
        TandemClocks x = Checks.withoutPulls();
        for (int clock = 0; clock < 8; clock++) {
            x.speed(clock, 10);
            Checks.putPhase(x, clock, 0);
        }
        for (int clock = 0; clock < 8; clock++) {
            for (int strikes = 1; strikes <= clock + 1; strikes++) {
                Checks.putPhase(x, clock, 990);
                x.pass(1);
            }
        }
        return x;
    }

    private static void promise6Speed() {
        Bounds.hold("Promise 6", "Changes the speed of a clock.");
        dueChange("speed(7, 44)", x -> x.speed(7, 44), ofClock(7, 1), 44);
        Bounds.hold("Promise 6", "- `clock`: 0 to 7");
        Bounds.hold("Promise 6", "Returns its speed before.");
        dueForEach(TandemClocks::new, "speed", (x, clock) -> x.speed(clock, 44), 30, 31, 32, 33, 34, 35, 36, 37);
    }

    private static TandemClocks unlikeGives() {
        TandemClocks x = new TandemClocks();
        for (int beam = 0; beam < 3; beam++) {
            x.give(beam, 11 + beam);
        }
        return x;
    }

    private static void promise7Give() {
        Bounds.hold("Promise 7", "Changes the give of a beam.");
        dueChange("give(1, 13)", x -> x.give(1, 13), GIVES + 1, 13);
        Bounds.hold("Promise 7", "- `beam`: 0 to 2");
        Bounds.hold("Promise 7", "Returns its give before.");
        dueForEach(PlainPromisesTest::unlikeGives, "give", (x, beam) -> x.give(beam, 7), 11, 12, 13);
    }

    private static void promise8Set() {
        Bounds.hold("Promise 8", "Changes a setting.");
        dueChange("set(0, 33)", x -> x.set(0, 33), SETTINGS, 33);
        dueChange("set(1, 33)", x -> x.set(1, 33), SETTINGS + 1, 33);
        dueChange("set(2, 33)", x -> x.set(2, 33), SETTINGS + 2, 33);
        Bounds.hold("Promise 8", "Returns the previous value.");
        dueForEach(TandemClocks::new, "set", (x, setting) -> x.set(setting, 33), 9, 40, 8);
        TandemClocks x = new TandemClocks();
        x.set(1, 33);
        Checks.due("set again", x.set(1, 0), 33);
        Checks.due("and again", x.set(1, 40), 0);
    }

    // ---- texts

    private static void promise12HowManyAreDone() {
        Bounds.hold("Promise 12", "Returns how many are done.");
        StringBuilder orders = new StringBuilder();
        for (int done = 1; done <= 20; done++) {
            orders.append(done == 1 ? "" : ";").append("w").append(done % 8);
            Checks.due("obey of " + orders, Bounds.written(orders.toString()).obey(), done);
        }
        Checks.due("up to one that would throw", Bounds.written("w1;t9;k0+5;b01;b01;w2").obey(), 4);
        Checks.due("none", Bounds.written("b11;w2").obey(), 0);
    }

    // ---- looks

    private static void promise16Clock() {
        Bounds.hold("Promise 16", "Tells something of a clock.");
        Bounds.hold("Promise 16", "- `clock`: 0 to 7");
        dueForEach(TandemClocks::new, "phase", (x, clock) -> x.clock(clock, 2), 0, 100, 200, 300, 400, 500, 600, 700);
        Bounds.hold("Promise 16", "- `what`: 0: its beam; 1: its speed; 2: its phase; 3: its spring;");
        dueForEach(TandemClocks::new, "beam", (x, clock) -> x.clock(clock, 0), 0, 1, 2, 0, 1, 2, 0, 1);
        dueForEach(TandemClocks::new, "speed", (x, clock) -> x.clock(clock, 1), 30, 31, 32, 33, 34, 35, 36, 37);
        dueForEach(PlainPromisesTest::struckUnalike, "spring", (x, clock) -> x.clock(clock, 3), 49, 48, 47, 46, 45, 44, 43, 42);
        Bounds.hold("Promise 16", "Returns the number.");
        TandemClocks x = Checks.withoutPulls();
        x.move(4, 2);
        x.speed(4, 50);
        x.kick(4, 500);
        x.kick(4, 50);
        x.wind(4);
        x.pass(1);
        x.give(2, 20);
        int[] numbers = {2, 50, 0, 98, 1, -9, 50, 550, 0, 4, 16};
        for (int what = 0; what <= 10; what++) {
            Checks.due("number " + what, x.clock(4, what), numbers[what]);
        }
        x.set(0, 50);
        Checks.due("pull, 23 by clock 2 and -46 by clock 5", x.clock(4, 5), -23);
    }

    private static void promise17Pair() {
        Bounds.hold("Promise 17", "Tells something of two clocks.");
        Bounds.hold("Promise 17", "- `clock`: 0 to 7");
        dueForEach(TandemClocks::new, "gap to 0 or 1", (x, clock) -> x.pair(clock, clock == 0 ? 1 : 0, 0),
                100, -100, -200, -300, -400, -500, 400, 300);
        Bounds.hold("Promise 17", "- `other`: another one");
        dueForEach(TandemClocks::new, "gap from 0 or 1", (x, other) -> x.pair(other == 0 ? 1 : 0, other, 0),
                -100, 100, 200, 300, 400, -500, -400, -300);
        Bounds.hold("Promise 17", "Returns the number.");
        TandemClocks x = Bounds.sideBySide(-37);
        x.pass(5);
        int[] there = {-37, 5, 4};
        int[] back = {37, 5, 4};
        for (int what = 0; what <= 2; what++) {
            Checks.due("number " + what, x.pair(0, 3, what), there[what]);
            Checks.due("number " + what + " the other way", x.pair(3, 0, what), back[what]);
        }
    }

    private static void promise18Beam() {
        Bounds.hold("Promise 18", "Tells something of a beam.");
        Bounds.hold("Promise 18", "- `beam`: 0 to 2");
        dueForEach(TandemClocks::new, "mask", (x, beam) -> x.beam(beam, 1), 73, 146, 36);
        Bounds.hold("Promise 18", "- `what`: 0: its give;");
        dueForEach(PlainPromisesTest::unlikeGives, "give", (x, beam) -> x.beam(beam, 0), 11, 12, 13);
        Bounds.hold("Promise 18", "Returns the number.");
        TandemClocks x = Checks.runDown();
        int[] clocks = {1, 4, 7};
        for (int at = 0; at < 3; at++) {
            x.wind(clocks[at]);
            Checks.putPhase(x, clocks[at], 100 + 60 * at * at);
        }
        x.move(0, 1);
        x.give(1, 15);
        int[] numbers = {15, 147, 146, 9 + 9 - 9, 240};
        for (int what = 0; what <= 4; what++) {
            Checks.due("number " + what, x.beam(1, what), numbers[what]);
        }
    }

    private static void promise19Count() {
        Bounds.hold("Promise 19", "Returns a number.");
        Bounds.hold("Promise 19", "Returns the number.");
        TandemClocks x = Bounds.inOneRow(0);
        x.pass(34);
        x.move(1, 1);
        x.kick(3, 7);
        int[] counts = {34, 8, 8, 21, 2, 2, 7, 2 + 2 + 2 + 2 + 1 + 1 + 1 + 1, 1, 6};
        for (int what = 0; what <= 9; what++) {
            Checks.due("count(" + what + ")", x.count(what), counts[what]);
        }
        x.undo();
        int[] before = {34, 8, 8, 21, 2, 2, 7, 11, 1, 5};
        for (int what = 0; what <= 9; what++) {
            Checks.due("count(" + what + ") behind undo", x.count(what), before[what]);
        }
    }

    private static void promise20Setting() {
        Bounds.hold("Promise 20", "Returns a setting.");
        Bounds.hold("Promise 20", "Returns its value.");
        dueForEach(TandemClocks::new, "setting", (x, setting) -> x.setting(setting), 9, 40, 8);
        dueForEach(PlainPromisesTest::unlikeSettings, "setting", (x, setting) -> x.setting(setting), 41, 42, 43);
    }

    private static TandemClocks unlikeSettings() {
        TandemClocks x = new TandemClocks();
        for (int setting = 0; setting < 3; setting++) {
            x.set(setting, 41 + setting);
        }
        return x;
    }

    // ---- what would be

    private static void promise21IfPassed() {
        Bounds.hold("Promise 21", "Tells what ticks would bring for a clock.");
        Bounds.hold("Promise 21", "- `clock`: 0 to 7");
        dueForEach(Checks::withoutPulls, "phase behind 1 tick", (x, clock) -> x.ifPassed(1, clock, 0), 30, 131, 232, 333, 434, 535, 636, 737);
        dueForEach(Checks::withoutPulls, "strikes in 36 ticks", (x, clock) -> x.ifPassed(36, clock, 1), 1, 1, 1, 1, 1, 1, 1, 2);
        Bounds.hold("Promise 21", "Returns the number.");
        for (int ticks : new int[] {1, 5, 60, 200}) {
            for (int clock = 0; clock < 8; clock++) {
                TandemClocks x = lively();
                int phase = x.ifPassed(ticks, clock, 0);
                int strikes = x.ifPassed(ticks, clock, 1) + x.clock(clock, 4);
                int group = x.ifPassed(ticks, clock, 2);
                x.pass(ticks);
                Checks.due("phase behind " + ticks, phase, x.clock(clock, 2));
                Checks.due("strikes in " + ticks, strikes, x.clock(clock, 4));
                Checks.due("group behind " + ticks, group, x.clock(clock, 10));
            }
        }
    }

    /** Clock k was moved and moved back with k of 8 ticks to go until it is locked with clock 0. */
    private static TandemClocks lockedOneByOne() {
        TandemClocks x = Bounds.inOneRow(0);
        x.pass(9);
        for (int clock = 1; clock <= 7; clock++) {
            x.move(clock, 1);
            x.move(clock, 0);
            x.pass(1);
        }
        return x;
    }

    private static void promise22LockedIn() {
        Bounds.hold("Promise 22", "Tells when two clocks will be locked.");
        Bounds.hold("Promise 22", "- `clock`: 0 to 7");
        dueForEach(PlainPromisesTest::lockedOneByOne, "with 0 or 7", (x, clock) -> x.lockedIn(clock, clock == 0 ? 7 : 0), 7, 1, 2, 3, 4, 5, 6, 7);
        Bounds.hold("Promise 22", "- `other`: another one");
        dueForEach(PlainPromisesTest::lockedOneByOne, "0 or 7 with", (x, other) -> x.lockedIn(other == 0 ? 7 : 0, other), 7, 1, 2, 3, 4, 5, 6, 7);
    }

    /** On each beam two clocks or more are held together only by a pull; how much give that needs is unlike. */
    private static TandemClocks heldTogether() {
        TandemClocks x = Checks.withoutPulls();
        x.speed(6, 32);
        Checks.putPhase(x, 6, 20);
        x.speed(7, 35);
        Checks.putPhase(x, 7, 110);
        return x;
    }

    private static void promise23BestGive() {
        Bounds.hold("Promise 23", "Finds the best give for a beam.");
        Bounds.hold("Promise 23", "- `beam`: 0 to 2");
        int[] best = new int[3];
        for (int beam = 0; beam < 3; beam++) {
            int fewest = 9;
            for (int give = 0; give <= 20; give++) {
                TandemClocks x = heldTogether();
                x.give(beam, give);
                x.pass(100);
                best[beam] = x.count(4) < fewest ? give : best[beam];
                fewest = Math.min(fewest, x.count(4));
            }
        }
        Checks.due("the best gives are unlike", best[0] != best[1] && best[1] != best[2] && best[0] != best[2] ? 1 : 0, 1);
        dueForEach(PlainPromisesTest::heldTogether, "bestGive", (x, beam) -> x.bestGive(beam), best);
    }

    private static void promise24NextStrike() {
        Bounds.hold("Promise 24", "Tells when the next clock strikes.");
        TandemClocks x = lively();
        for (int times = 0; times < 40; times++) {
            int ticks = x.nextStrike();
            Checks.due("strikes before it", ticks > 1 ? x.pass(ticks - 1) : 0, 0);
            Checks.due("some clock strikes in it", x.pass(1) > 0 ? 1 : 0, 1);
        }
    }

    private static void promise25StepShare() {
        Bounds.hold("Promise 25", "Returns how many clocks are in step.");
        for (TandemClocks x : new TandemClocks[] {new TandemClocks(), lively(), lockedOneByOne(), Bounds.rich()}) {
            Checks.dueShare("stepShare", x.stepShare(), (double) x.count(6) / 8.0);
        }
        Checks.dueShare("7 of 8", lively().stepShare(), 0.875);
    }

    private static void promise26MeanGap() {
        Bounds.hold("Promise 26", "Returns how wide gaps are.");
        for (TandemClocks x : new TandemClocks[] {new TandemClocks(), lively(), heldTogether(), Bounds.rich()}) {
            Checks.dueShare("meanGap", x.meanGap(), (float) (x.beam(0, 4) + x.beam(1, 4) + x.beam(2, 4)) / 3f);
        }
    }

    // ---- the digest

    /** Each of these changes another part of the state, and the digest each time. */
    private static void promise27WholeState() {
        Bounds.hold("Promise 27", "Computes a hash of the whole state.");
        Deed[] deeds = {
            x -> x.kick(6, 1), x -> x.move(6, 1), x -> x.wind(6), x -> x.speed(6, 31), x -> x.give(2, 5), x -> x.set(0, 10),
            x -> x.set(1, 41), x -> x.set(2, 7), x -> x.pass(1), x -> x.append('k'), x -> x.append('w'), x -> x.keep(), x -> x.undo()};
        for (int one = 0; one < deeds.length; one++) {
            TandemClocks x = lively();
            deeds[one].to(x);
            Checks.due("deed " + one + " changes the digest", x.digest() != lively().digest() ? 1 : 0, 1);
            for (int other = 0; other < one; other++) {
                TandemClocks y = lively();
                deeds[other].to(y);
                Checks.due("deeds " + one + " and " + other + " unlike", x.digest() != y.digest() ? 1 : 0, 1);
            }
        }
    }

    private static long power(int of31) {
        return of31 == 0 ? 1 : 31 * power(of31 - 1);
    }

    private static void promise27InOrder() {
        Bounds.hold("Promise 27", "For each value v of the following list, in order, the hash becomes 31 * hash + v, in long arithmetic with overflow.");
        String text = "k3+5;t9;w7";
        long digest = Bounds.written(text).digest();
        for (int at = 0; at < text.length(); at++) {
            for (char sign : new char[] {'!', '~'}) {
                String other = text.substring(0, at) + sign + text.substring(at + 1);
                long less = (sign - text.charAt(at)) * power(text.length() - 1 - at);
                Checks.due("digest with " + other, Bounds.written(other).digest() - digest, less);
            }
        }
        TandemClocks kept = Bounds.written(text);
        kept.keep();
        Checks.due("1 if there is a snapshot", kept.digest() - digest, power(text.length() + 1));
        TandemClocks longer = Bounds.written(text + "x");
        Checks.due("one value more", longer.digest(), 31 * (digest + power(text.length())) + 'x');
    }

    private static void promise27Values() {
        Bounds.hold("Promise 27", "The values are: count(0) to count(9); the settings 0 to 2; for each clock its numbers 0 to 10; for each pair of clocks, the first one less than the other, by the first one and then by the other, its numbers 0 to 2; for each beam its numbers 0 to 4; ifPassed of 20 ticks for each clock with 0 to 2;");
        Bounds.hold("Promise 27", "Returns the hash.");
        Bounds.Make[] makes = {
            PlainPromisesTest::lively, PlainPromisesTest::heldTogether, PlainPromisesTest::lockedOneByOne,
            PlainPromisesTest::unlikeGives, PlainPromisesTest::unlikeSettings, PlainPromisesTest::struckUnalike};
        for (int at = 0; at < makes.length; at++) {
            TandemClocks x = makes[at].made();
            Checks.due("digest of " + at, x.digest(), ForecastTest.digestByLooks(x, false, ""));
            TandemClocks later = makes[at].made();
            later.pass(200);
            later.keep();
            Checks.write(later, "z;4");
            Checks.due("digest of " + at + ", later", later.digest(), ForecastTest.digestByLooks(later, true, "z;4"));
        }
    }
}
