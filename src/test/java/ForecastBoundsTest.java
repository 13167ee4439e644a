/** Each sentence of promises 21 to 27 that names a boundary case. */
public final class ForecastBoundsTest {
    public static void main(String[] args) {
        promise21Ticks();
        promise21Clock();
        promise21What();
        promise21PhaseThen();
        promise21StrikesInThem();
        promise21GroupThen();
        promise22Clocks();
        promise22IfTheyAreNow();
        promise22ForTheFirstTime();
        promise22Within500();
        promise23Beam();
        promise23From0To20();
        promise23TheLeastOfSeveral();
        promise23Behind100Ticks();
        promise24InTheLastOfThem();
        promise24Within500();
        promise25StepShare();
        promise26MeanGap();
        promise27StartsAt3659();
        promise27SnapshotAndBuffer();
        promise27Shares();
        promise27NoneWithin500();
        nothingIsChanged();
        Bounds.end("ForecastBoundsTest", 21, 27);
    }

    // ---- promise 21

    private static void promise21Ticks() {
        Bounds.hold("Promise 21", "- `ticks`: 1 to 200");
        TandemClocks x = Checks.withoutPulls();
        Checks.due("the least is taken", x.ifPassed(1, 0, 0), 30);
        Checks.due("the most is taken", x.ifPassed(200, 0, 1), 6);
        Bounds.hold("Promise 21", "Throws `IllegalArgumentException` if ticks or what is out of range");
        for (int ticks : Bounds.outside(1, 200)) {
            Bounds.refused("ifPassed(" + ticks + ", 0, 0)", Checks.ARGUMENT, y -> y.ifPassed(ticks, 0, 0));
            Bounds.refused("ifPassed(" + ticks + ", 7, 2)", Checks.ARGUMENT, y -> y.ifPassed(ticks, 7, 2));
            Bounds.refused("ifPassed(" + ticks + ", 7, 3)", Checks.ARGUMENT, y -> y.ifPassed(ticks, 7, 3));
        }
    }

    private static void promise21Clock() {
        Bounds.hold("Promise 21", "Throws `IndexOutOfBoundsException` if there is no such clock");
        TandemClocks x = Checks.withoutPulls();
        Checks.due("the least is taken", x.ifPassed(2, 0, 0), 60);
        Checks.due("the most is taken", x.ifPassed(2, 7, 0), 774);
        for (int clock : Bounds.outside(0, 7)) {
            Bounds.refused("ifPassed(1, " + clock + ", 0)", Checks.INDEX, y -> y.ifPassed(1, clock, 0));
            Bounds.refused("ifPassed(200, " + clock + ", 2)", Checks.INDEX, y -> y.ifPassed(200, clock, 2));
        }
    }

    private static void promise21What() {
        Bounds.hold("Promise 21", "- `what`: 0: its phase then");
        TandemClocks x = Checks.withoutPulls();
        Checks.due("the least is taken", x.ifPassed(9, 7, 0), 33);
        Checks.due("the one between", x.ifPassed(9, 7, 1), 1);
        Checks.due("the most is taken", x.ifPassed(9, 7, 2), 128);
        for (int what : Bounds.outside(0, 2)) {
            Bounds.refused("ifPassed(1, 0, " + what + ")", Checks.ARGUMENT, y -> y.ifPassed(1, 0, what));
            Bounds.refused("ifPassed(200, 7, " + what + ")", Checks.ARGUMENT, y -> y.ifPassed(200, 7, what));
        }
    }

    private static void promise21PhaseThen() {
        Bounds.hold("Promise 21", "0: its phase then");
        for (int phase : new int[] {967, 968, 999}) {
            TandemClocks x = Checks.withoutPulls();
            Checks.putPhase(x, 2, phase);
            Checks.due("behind one tick from " + phase, x.ifPassed(1, 2, 0), (phase + 32) % 1000);
        }
        TandemClocks last = Bounds.beforeLastStrike(0, 3);
        Checks.due("behind its last strike", last.ifPassed(1, 0, 0), 0);
        Checks.due("it goes on no more", last.ifPassed(200, 0, 0), 0);
        TandemClocks down = Checks.runDown();
        Checks.due("none goes", down.ifPassed(200, 5, 0), down.clock(5, 2));
    }

    private static void promise21StrikesInThem() {
        Bounds.hold("Promise 21", "1: its strikes in them");
        TandemClocks x = Checks.withoutPulls();
        x.speed(0, 50);
        x.pass(100);
        Checks.due("strikes before", x.clock(0, 4), 5);
        Checks.due("none in 19 ticks", x.ifPassed(19, 0, 1), 0);
        Checks.due("one in 20 ticks", x.ifPassed(20, 0, 1), 1);
        Checks.due("ten in 200 ticks", x.ifPassed(200, 0, 1), 10);
        TandemClocks last = Bounds.beforeLastStrike(0, 3);
        Checks.due("the last strike", last.ifPassed(200, 0, 1), 1);
        Checks.due("none goes", Checks.runDown().ifPassed(200, 0, 1), 0);
    }

    private static void promise21GroupThen() {
        Bounds.hold("Promise 21", "2: the clocks of its group then, as a mask");
        TandemClocks x = Bounds.inOneRow(40);
        Checks.due("one tick too few", x.ifPassed(7, 0, 2), 1);
        Checks.due("just enough", x.ifPassed(8, 0, 2), 255);
        Checks.due("the last one", x.ifPassed(8, 7, 2), 255);
        Checks.due("one tick too few", x.ifPassed(7, 7, 2), 128);
        x.pass(8);
        x.set(1, 39);
        Checks.due("a group now", x.clock(0, 10), 255);
        Checks.due("but not then", x.ifPassed(1, 0, 2), 1);
    }

    // ---- promise 22

    private static void promise22Clocks() {
        Bounds.hold("Promise 22", "Throws `IndexOutOfBoundsException` if there is no such clock, or both are the same");
        TandemClocks x = Bounds.inOneRow(0);
        Checks.due("the least and the most", x.lockedIn(0, 7), 8);
        Checks.due("the most and the least", x.lockedIn(7, 0), 8);
        for (int clock : Bounds.outside(0, 7)) {
            Bounds.refused("lockedIn(" + clock + ", 0)", Checks.INDEX, y -> y.lockedIn(clock, 0));
            Bounds.refused("lockedIn(7, " + clock + ")", Checks.INDEX, y -> y.lockedIn(7, clock));
            Bounds.refused("lockedIn(" + clock + ", twice)", Checks.INDEX, y -> y.lockedIn(clock, clock));
        }
        for (int k = 0; k < 8; k++) {
            int clock = k;
            Bounds.refused("lockedIn(" + k + ", " + k + ")", Checks.INDEX, y -> y.lockedIn(clock, clock));
        }
    }

    private static void promise22IfTheyAreNow() {
        Bounds.hold("Promise 22", "0 if they are now");
        TandemClocks x = Bounds.sideBySide(40);
        x.pass(7);
        Checks.due("one tick too few", x.lockedIn(0, 3), 1);
        x.pass(1);
        Checks.due("now", x.lockedIn(0, 3), 0);
        Checks.due("now, the other way", x.lockedIn(3, 0), 0);
        x.set(1, 0);
        Checks.due("now, but not in the next tick", x.lockedIn(0, 3), 0);
        x.pass(1);
        Checks.due("not now and never", x.lockedIn(0, 3), TandemClocks.NONE);
        TandemClocks one = Bounds.sideBySide(0);
        one.set(2, 1);
        Checks.due("in the next tick", one.lockedIn(0, 3), 1);
        one.set(2, 50);
        Checks.due("in 50 ticks", one.lockedIn(0, 3), 50);
    }

    private static void promise22ForTheFirstTime() {
        Bounds.hold("Promise 22", "Returns behind how many ticks, if they pass, 0 if they are now, for the first time");
        TandemClocks x = Checks.withoutPulls();
        x.speed(0, 60);
        x.speed(3, 10);
        Checks.putPhase(x, 3, 40);
        x.set(2, 1);
        Checks.due("near in many ticks, the first is told", x.lockedIn(0, 3), 1);
        Checks.putPhase(x, 3, 90);
        Checks.due("the gap is 40 behind one tick", x.lockedIn(0, 3), 1);
        Checks.putPhase(x, 3, 91);
        Checks.due("the gap is 41, then -9", x.lockedIn(0, 3), 2);
        x.pass(1);
        Checks.due("one tick less", x.lockedIn(0, 3), 1);
    }

    private static void promise22Within500() {
        Bounds.hold("Promise 22", "NONE if they are not within 500 ticks.");
        int[] ticks = {499, 500, TandemClocks.NONE, TandemClocks.NONE};
        for (int at = 0; at < ticks.length; at++) {
            TandemClocks x = meetingIn(499 + at);
            Checks.due("a gap of " + (499 + at), x.lockedIn(0, 3), ticks[at]);
            Checks.due("the other way", x.lockedIn(3, 0), ticks[at]);
            if (at == 2) {
                x.pass(1);
                Checks.due("one tick later", x.lockedIn(0, 3), 500);
            }
        }
        Checks.due("on one beam", Bounds.inOneRow(0).lockedIn(0, 1), 8);
        Checks.due("on unlike beams", new TandemClocks().lockedIn(0, 1), TandemClocks.NONE);
        Checks.due("one that does not go", Checks.runDown().lockedIn(0, 3), TandemClocks.NONE);
    }

    /** Clock 0 is faster than 3 by 1, and both are near only while they are at one phase. */
    private static TandemClocks meetingIn(int ticks) {
        TandemClocks x = Checks.withoutPulls();
        x.speed(0, 31);
        x.speed(3, 30);
        Checks.putPhase(x, 3, ticks);
        x.set(1, 0);
        x.set(2, 1);
        return x;
    }

    // ---- promise 23

    private static void promise23Beam() {
        Bounds.hold("Promise 23", "Throws `IndexOutOfBoundsException` if there is no such beam");
        TandemClocks x = Checks.withoutPulls();
        Checks.due("the most is taken", x.bestGive(2), 10);
        Checks.due("the least is taken", x.bestGive(0), bestByPassing(new int[] {9, 40, 8, 32, 35}, 0, 100));
        for (int beam : Bounds.outside(0, 2)) {
            Bounds.refused("bestGive(" + beam + ")", Checks.INDEX, y -> y.bestGive(beam));
        }
    }

    /** The settings, and the speeds of 2 and 5, which are alone on beam 2. */
    private static TandemClocks planned(int[] plan) {
        TandemClocks x = Checks.withoutPulls();
        for (int setting = 0; setting < 3; setting++) {
            x.set(setting, plan[setting]);
        }
        x.speed(2, plan[3]);
        x.speed(5, plan[4]);
        return x;
    }

    private static int groupsBehind(int[] plan, int beam, int give, int ticks) {
        TandemClocks x = planned(plan);
        x.give(beam, give);
        x.pass(ticks);
        return x.count(5);
    }

    private static int bestByPassing(int[] plan, int beam, int ticks) {
        int best = 20;
        for (int give = 20; give >= 0; give--) {
            if (groupsBehind(plan, beam, give, ticks) <= groupsBehind(plan, beam, best, ticks)) {
                best = give;
            }
        }
        return best;
    }

    private static void promise23From0To20() {
        Bounds.hold("Promise 23", "Returns the give, 0 to 20, with which there would be the fewest groups");
        int[] most = {35, 40, 17, 10, 17};
        Checks.due("groups with 19", groupsBehind(most, 2, 19, 100), 8);
        Checks.due("groups with 20", groupsBehind(most, 2, 20, 100), 7);
        Checks.due("the most, 20", planned(most).bestGive(2), 20);
        int[] beyond = {6, 29, 13, 55, 50};
        Checks.due("groups with 20", groupsBehind(beyond, 2, 20, 100), 8);
        Checks.due("21 would be better, but is no give", planned(beyond).bestGive(2), 0);
        int[] least = {9, 0, 8, 30, 30};
        TandemClocks x = planned(least);
        x.give(2, 20);
        Checks.due("the least, 0, is no worse than others", x.bestGive(2), 0);
        Checks.due("the give itself stays", x.beam(2, 0), 20);
    }

    private static void promise23TheLeastOfSeveral() {
        Bounds.hold("Promise 23", "of several the least.");
        TandemClocks unpulled = new TandemClocks();
        unpulled.set(0, 0);
        for (int beam = 0; beam < 3; beam++) {
            Checks.due("all gives alike", unpulled.bestGive(beam), 0);
        }
        TandemClocks together = Bounds.inOneRow(0);
        Checks.due("all in one group with each give", together.bestGive(0), 0);
        Checks.due("a beam without clocks", together.bestGive(1), 0);
        int[] alike = {9, 40, 8, 32, 35};
        Checks.due("groups with 9", groupsBehind(alike, 2, 9, 100), 8);
        Checks.due("groups with 10", groupsBehind(alike, 2, 10, 100), 7);
        Checks.due("groups with 20", groupsBehind(alike, 2, 20, 100), 7);
        Checks.due("10 to 20 alike", planned(alike).bestGive(2), 10);
        Checks.due("none goes", Checks.runDown().bestGive(2), 0);
    }

    private static void promise23Behind100Ticks() {
        Bounds.hold("Promise 23", "behind 100 ticks");
        int[][] plans = {{14, 37, 2, 11, 42}, {20, 35, 3, 39, 11}, {6, 55, 1, 23, 11}, {38, 9, 1, 52, 52}};
        boolean otherBehind99 = false;
        boolean otherBehind101 = false;
        for (int[] plan : plans) {
            int best = bestByPassing(plan, 2, 100);
            Checks.due("bestGive", planned(plan).bestGive(2), best);
            otherBehind99 |= bestByPassing(plan, 2, 99) != best;
            otherBehind101 |= bestByPassing(plan, 2, 101) != best;
        }
        Checks.due("99 ticks would tell another one", otherBehind99 ? 1 : 0, 1);
        Checks.due("101 ticks would tell another one", otherBehind101 ? 1 : 0, 1);
    }

    // ---- promise 24

    private static void promise24InTheLastOfThem() {
        Bounds.hold("Promise 24", "Returns behind how many ticks, in the last one of them");
        int[] phases = {999, 968, 967, 936, 935};
        int[] ticks = {1, 1, 2, 2, 3};
        for (int at = 0; at < phases.length; at++) {
            TandemClocks x = Checks.withoutPulls();
            Checks.putPhase(x, 2, phases[at]);
            Checks.due("from " + phases[at], x.nextStrike(), ticks[at]);
        }
        TandemClocks x = Bounds.inOneRow(0);
        Checks.due("from 0 by 30", x.nextStrike(), 34);
        x.pass(33);
        Checks.due("in the next tick", x.nextStrike(), 1);
        x.pass(1);
        Checks.due("behind a strike, from 20", x.nextStrike(), 33);
        TandemClocks down = Checks.runDown();
        Checks.putPhase(down, 0, 999);
        down.wind(7);
        Checks.putPhase(down, 7, 819);
        Checks.due("not of one that has run down", down.nextStrike(), 4);
        Checks.putPhase(down, 7, 820);
        Checks.due("of the one that goes", down.nextStrike(), 3);
    }

    /** All clocks hang on beam 0 and hold each other back for long; they would strike in 534 ticks. */
    private static TandemClocks heldBack() {
        int[] speeds = {10, 10, 10, 11, 10, 10, 10, 12};
        int[] phases = {500, 500, 299, 500, 0, 0, 0, 215};
        TandemClocks x = new TandemClocks();
        x.give(0, 19);
        x.set(0, 11);
        for (int clock = 0; clock < 8; clock++) {
            if (clock % 3 != 0) {
                x.move(clock, 0);
            }
            x.speed(clock, speeds[clock]);
            Checks.putPhase(x, clock, phases[clock]);
        }
        return x;
    }

    private static void promise24Within500() {
        Bounds.hold("Promise 24", "NONE if none does within 500 ticks.");
        TandemClocks x = heldBack();
        Checks.due("in 534 ticks", x.nextStrike(), TandemClocks.NONE);
        x.pass(33);
        Checks.due("in 501 ticks", x.nextStrike(), TandemClocks.NONE);
        x.pass(1);
        Checks.due("in 500 ticks", x.nextStrike(), 500);
        x.pass(1);
        Checks.due("in 499 ticks", x.nextStrike(), 499);
        x.pass(200);
        x.pass(200);
        x.pass(98);
        Checks.due("none has struck yet", x.count(1), 0);
        Checks.due("in the next tick", x.nextStrike(), 1);
        Checks.due("it does", x.pass(1) > 0 ? 1 : 0, 1);
        Checks.due("none goes", Checks.runDown().nextStrike(), TandemClocks.NONE);
    }

    // ---- promises 25 and 26

    private static void promise25StepShare() {
        Bounds.hold("Promise 25", "Returns count(6) as a double, divided by 8.");
        Checks.dueShare("each by itself", new TandemClocks().stepShare(), 0.125);
        TandemClocks x = Bounds.inOneRow(0);
        x.pass(7);
        Checks.dueShare("one tick too few", x.stepShare(), 0.125);
        x.pass(1);
        Checks.dueShare("all in step", x.stepShare(), 1.0);
        double[] shares = {0.875, 0.75, 0.625, 0.5, 0.375, 0.25, 0.125};
        for (int clock = 0; clock < 7; clock++) {
            x.move(clock, 1);
            Checks.dueShare("without " + (clock + 1), x.stepShare(), shares[clock]);
        }
    }

    private static void promise26MeanGap() {
        Bounds.hold("Promise 26", "Returns the sum of all beam(b, 4) as a float, divided by 3.");
        Checks.dueShare("a new one", new TandemClocks().meanGap(), 1100f / 3f);
        TandemClocks x = Bounds.inOneRow(0);
        Checks.dueShare("no gap", x.meanGap(), 0f);
        x.kick(7, -1);
        Checks.dueShare("the least gap", x.meanGap(), 1f / 3f);
        TandemClocks wide = new TandemClocks();
        for (int clock = 0; clock < 8; clock++) {
            Checks.putPhase(wide, clock, clock < 3 ? 0 : 500);
        }
        Checks.dueShare("the widest gaps", wide.meanGap(), 500f);
        wide.kick(5, 1);
        Checks.dueShare("one less", wide.meanGap(), 1499f / 3f);
        Checks.dueShare("none goes", Checks.runDown().meanGap(), 0f);
    }

    // ---- promise 27

    private static void dueDigest(String what, Bounds.Make make, boolean kept, String buffer) {
        Checks.due("digest " + what, make.made().digest(), ForecastTest.digestByLooks(make.made(), kept, buffer));
    }

    private static void promise27StartsAt3659() {
        Bounds.hold("Promise 27", "The hash starts at 3659.");
        dueDigest("of a new one", TandemClocks::new, false, "");
        Bounds.hold("Promise 27", "in long arithmetic with overflow");
        dueDigest("of all locked", () -> afterTicks(Bounds.inOneRow(0), 200), false, "");
        dueDigest("with kicks below 0", ForecastBoundsTest::kickedBack, false, "");
    }

    private static TandemClocks afterTicks(TandemClocks x, int ticks) {
        x.pass(ticks);
        return x;
    }

    private static TandemClocks kickedBack() {
        TandemClocks x = new TandemClocks();
        for (int clock = 0; clock < 8; clock++) {
            x.kick(clock, -500);
            x.kick(clock, -499);
        }
        return x;
    }

    private static void promise27SnapshotAndBuffer() {
        Bounds.hold("Promise 27", "1 if there is a snapshot, otherwise 0; the length of the buffer and each of its character codes.");
        for (String text : new String[] {"", "!", "~", "k0", Bounds.FULL.substring(0, 59), Bounds.FULL}) {
            dueDigest("with the text " + text, () -> Bounds.written(text), false, text);
        }
        dueDigest("with a snapshot", ForecastBoundsTest::kept, true, "w0");
        dueDigest("with six saved states", Bounds::rich, true, "k3+5;t");
    }

    private static TandemClocks kept() {
        TandemClocks x = Bounds.written("w0");
        x.keep();
        return x;
    }

    private static void promise27Shares() {
        Bounds.hold("Promise 27", "the bits of stepShare (as Double.doubleToLongBits); the bits of meanGap (as Float.floatToIntBits)");
        for (int taken = 0; taken < 8; taken++) {
            int moved = taken;
            dueDigest("in step but for " + taken, () -> withoutFirst(moved), false, "");
        }
        for (int gap = 0; gap <= 500; gap += gap < 9 ? 1 : 13) {
            int wide = gap;
            dueDigest("with a gap of " + gap, () -> Bounds.two(4, wide == 500 ? -500 : wide), false, "");
            dueDigest("with a gap alone of " + gap, () -> oneGap(wide), false, "");
        }
    }

    private static TandemClocks withoutFirst(int taken) {
        TandemClocks x = afterTicks(Bounds.inOneRow(0), 8);
        for (int clock = 0; clock < taken; clock++) {
            x.move(clock, 1);
        }
        return x;
    }

    private static TandemClocks oneGap(int gap) {
        TandemClocks x = Bounds.inOneRow(0);
        Checks.putPhase(x, 7, gap);
        return x;
    }

    private static void promise27NoneWithin500() {
        Bounds.hold("Promise 27", "lockedIn of the clocks 0 and 3; nextStrike;");
        dueDigest("with NONE for both", Checks::runDown, false, "");
        dueDigest("with 0 for locked clocks", () -> afterTicks(Bounds.sideBySide(0), 8), false, "");
        dueDigest("with NONE for a strike in 501 ticks", () -> afterTicks(heldBack(), 33), false, "");
        dueDigest("with a strike in 500 ticks", () -> afterTicks(heldBack(), 34), false, "");
        dueDigest("with a lock in 500 ticks", () -> meetingIn(500), false, "");
        dueDigest("with NONE for a lock in 501 ticks", () -> meetingIn(501), false, "");
    }

    private static void nothingIsChanged() {
        Bounds.hold("Terms", "what would be; nothing is changed.");
        TandemClocks x = Bounds.rich();
        for (int k = 0; k < 3; k++) {
            x.ifPassed(1, k, k);
            x.ifPassed(200, 7 - k, k);
            x.lockedIn(k, 7);
            x.lockedIn(7, k);
            x.bestGive(k);
        }
        x.nextStrike();
        x.stepShare();
        x.meanGap();
        x.digest();
        Checks.dueText("behind all of them", Bounds.told(x), Bounds.told(Bounds.rich()));
    }
}
