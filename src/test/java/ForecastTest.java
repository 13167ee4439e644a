/** Promises 21 to 27: what would be, and the digest. */
public final class ForecastTest {
    public static void main(String[] args) {
        promise21IfPassed();
        promise21Wrong();
        promise22LockedIn();
        promise22LastTick();
        promise22Wrong();
        promise23BestGive();
        promise23Wrong();
        promise24NextStrike();
        promise24LastTick();
        promise25StepShare();
        promise26MeanGap();
        promise27Digest();
        nothingIsChanged();
        Checks.end("ForecastTest");
    }

    /** Beam 1 draws five clocks together, and 3 and 6 go to it later. */
    private static TandemClocks drawnTogether() {
        TandemClocks x = new TandemClocks();
        x.move(3, 1);
        x.move(6, 1);
        x.give(1, 20);
        x.set(0, 50);
        x.pass(5);
        return x;
    }

    private static void promise21IfPassed() {
        for (int ticks : new int[] {1, 2, 20, 63, 200}) {
            TandemClocks asked = drawnTogether();
            TandemClocks passed = drawnTogether();
            passed.pass(ticks);
            for (int k = 0; k < 8; k++) {
                Checks.due("phase behind " + ticks, asked.ifPassed(ticks, k, 0), passed.clock(k, 2));
                Checks.due("strikes in " + ticks, asked.ifPassed(ticks, k, 1),
                        passed.clock(k, 4) - asked.clock(k, 4));
                Checks.due("group behind " + ticks, asked.ifPassed(ticks, k, 2), passed.clock(k, 10));
            }
        }
        TandemClocks later = drawnTogether();
        later.pass(60);
        Checks.due("strikes before", later.clock(1, 4) > 0 ? 1 : 0, 1);
        Checks.due("strikes in one tick", later.ifPassed(1, 1, 1) <= 1 ? 1 : 0, 1);
        TandemClocks alone = Checks.withoutPulls();
        Checks.due("phase", alone.ifPassed(10, 4, 0), 740);
        Checks.due("strikes", alone.ifPassed(17, 4, 1), 0);
        Checks.due("strikes", alone.ifPassed(18, 4, 1), 1);
        Checks.due("strikes", alone.ifPassed(48, 4, 1), 2);
        Checks.due("group", alone.ifPassed(200, 4, 2), 16);
    }

    private static void promise21Wrong() {
        TandemClocks x = new TandemClocks();
        for (int ticks : new int[] {0, -1, 201, Integer.MIN_VALUE, Integer.MAX_VALUE}) {
            Checks.dueThrow("ifPassed(" + ticks + ", 0, 0)", x, Checks.ARGUMENT, () -> x.ifPassed(ticks, 0, 0));
            Checks.dueThrow("ifPassed(" + ticks + ", 8, 0)", x, Checks.INDEX, () -> x.ifPassed(ticks, 8, 0));
        }
        for (int what : new int[] {-1, 3, Integer.MIN_VALUE, Integer.MAX_VALUE}) {
            Checks.dueThrow("ifPassed(5, 0, " + what + ")", x, Checks.ARGUMENT, () -> x.ifPassed(5, 0, what));
            Checks.dueThrow("ifPassed(5, -1, " + what + ")", x, Checks.INDEX, () -> x.ifPassed(5, -1, what));
        }
        for (int clock : new int[] {-1, 8, Integer.MIN_VALUE, Integer.MAX_VALUE}) {
            Checks.dueThrow("ifPassed(5, " + clock + ", 0)", x, Checks.INDEX, () -> x.ifPassed(5, clock, 0));
        }
    }

    private static void promise22LockedIn() {
        TandemClocks x = Checks.withoutPulls();
        x.speed(3, 30);
        Checks.putPhase(x, 3, 20);
        Checks.due("lockedIn", x.lockedIn(0, 3), 8);
        Checks.due("lockedIn the other way", x.lockedIn(3, 0), 8);
        x.pass(5);
        Checks.due("lockedIn behind 5", x.lockedIn(0, 3), 3);
        x.pass(3);
        Checks.due("locked now", x.lockedIn(0, 3), 0);
        x.kick(3, 300);
        Checks.due("locked now all the same", x.lockedIn(0, 3), 0);
        x.pass(1);
        Checks.due("not any more", x.lockedIn(0, 3), TandemClocks.NONE);
        Checks.due("unlike beams", x.lockedIn(0, 1), TandemClocks.NONE);
        Checks.due("clocks that are locked for some ticks alone", passingBy().lockedIn(0, 3), 92);
    }

    /** Clock 0 is 100 behind and faster by 1; near from 60 to 140 ticks behind; locked in them, but not for good. */
    private static TandemClocks passingBy() {
        TandemClocks x = Checks.withoutPulls();
        x.speed(0, 31);
        x.speed(3, 30);
        Checks.putPhase(x, 3, 100);
        x.set(2, 33);
        return x;
    }

    private static void promise22LastTick() {
        TandemClocks x = Checks.withoutPulls();
        x.speed(0, 31);
        x.speed(3, 30);
        Checks.putPhase(x, 3, 500);
        x.set(1, 0);
        x.set(2, 1);
        Checks.due("in 500 ticks", x.lockedIn(0, 3), 500);
        x.kick(3, -1);
        Checks.due("in 499 ticks", x.lockedIn(0, 3), 499);
        x.kick(3, 2);
        Checks.due("in 501 ticks", x.lockedIn(0, 3), TandemClocks.NONE);
    }

    private static void promise22Wrong() {
        TandemClocks x = new TandemClocks();
        for (int clock : new int[] {-1, 8, 4, Integer.MIN_VALUE, Integer.MAX_VALUE}) {
            Checks.dueThrow("lockedIn(" + clock + ", 4)", x, Checks.INDEX, () -> x.lockedIn(clock, 4));
            Checks.dueThrow("lockedIn(4, " + clock + ")", x, Checks.INDEX, () -> x.lockedIn(4, clock));
            Checks.dueThrow("lockedIn(" + clock + " twice)", x, Checks.INDEX, () -> x.lockedIn(clock, clock));
        }
    }

    private static void promise23BestGive() {
        // Clock 5 is faster than 2 by 3: only pulls of 2 each hold them at a gap of 40, and 40 * 10 / 200 is 2.
        Checks.due("the least of several", Checks.withoutPulls().bestGive(2), 10);
        TandemClocks unpulled = new TandemClocks();
        unpulled.set(0, 0);
        Checks.due("all gives alike", unpulled.bestGive(2), 0);
        boolean anyAboveNone = false;
        for (int most = 0; most <= 50; most += 10) {
            TandemClocks x = drawnTogether();
            x.set(0, most);
            for (int beam = 0; beam < 3; beam++) {
                int wanted = bestByPassing(most, beam);
                anyAboveNone |= wanted > 0;
                Checks.due("bestGive(" + beam + ") with " + most, x.bestGive(beam), wanted);
            }
        }
        Checks.due("some best give is above 0", anyAboveNone ? 1 : 0, 1);
    }

    private static int bestByPassing(int most, int beam) {
        int best = 0;
        int fewest = 9;
        for (int give = 0; give <= 20; give++) {
            TandemClocks x = drawnTogether();
            x.set(0, most);
            x.give(beam, give);
            x.pass(100);
            if (x.count(5) < fewest) {
                fewest = x.count(5);
                best = give;
            }
        }
        return best;
    }

    private static void promise23Wrong() {
        TandemClocks x = new TandemClocks();
        for (int beam : new int[] {-1, 3, Integer.MIN_VALUE, Integer.MAX_VALUE}) {
            Checks.dueThrow("bestGive(" + beam + ")", x, Checks.INDEX, () -> x.bestGive(beam));
        }
    }

    private static void promise24NextStrike() {
        TandemClocks x = Checks.withoutPulls();
        Checks.due("nextStrike", x.nextStrike(), 9);
        Checks.putPhase(x, 2, 968);
        Checks.due("in the next tick", x.nextStrike(), 1);
        Checks.putPhase(x, 2, 967);
        Checks.due("in the second one", x.nextStrike(), 2);
        Checks.due("none goes", Checks.runDown().nextStrike(), TandemClocks.NONE);
    }

    /** Clocks at 0 and at 500 on one beam pull each other back alike, so each goes on by 1 in a tick. */
    private static void promise24LastTick() {
        TandemClocks x = new TandemClocks();
        for (int clock = 0; clock < 8; clock++) {
            if (clock % 3 != 0) {
                x.move(clock, 0);
            }
            x.speed(clock, 10);
            Checks.putPhase(x, clock, clock % 2 == 0 ? 0 : 500);
        }
        Checks.due("in 500 ticks", x.nextStrike(), 500);
        x.set(0, 10);
        Checks.due("never", x.nextStrike(), TandemClocks.NONE);
    }

    private static void promise25StepShare() {
        TandemClocks x = Checks.withoutPulls();
        Checks.dueShare("all by themselves", x.stepShare(), 0.125);
        x.set(2, 1);
        for (int clock = 0; clock < 8; clock++) {
            if (clock % 3 != 0) {
                x.move(clock, 0);
            }
            x.speed(clock, 30);
            Checks.putPhase(x, clock, 0);
        }
        x.pass(1);
        Checks.dueShare("all in step", x.stepShare(), 1.0);
        x.move(4, 1);
        Checks.dueShare("all but one in step", x.stepShare(), 0.875);
    }

    private static void promise26MeanGap() {
        TandemClocks x = new TandemClocks();
        Checks.dueShare("meanGap", x.meanGap(), 1100f / 3f);
        for (int clock = 0; clock < 8; clock++) {
            Checks.putPhase(x, clock, 5);
        }
        Checks.dueShare("no gaps", x.meanGap(), 0f);
        x.kick(4, 1);
        Checks.dueShare("a gap of 1", x.meanGap(), 1f / 3f);
        Checks.dueShare("none goes", Checks.runDown().meanGap(), 0f);
    }

    private static void promise27Digest() {
        TandemClocks x = new TandemClocks();
        Checks.due("digest of a new one", x.digest(), digestByLooks(x, false, ""));
        Checks.write(x, "t9;k");
        Checks.due("with a buffer", x.digest(), digestByLooks(x, false, "t9;k"));
        TandemClocks kept = new TandemClocks();
        Checks.write(kept, "t9;k");
        kept.keep();
        Checks.due("with a snapshot", kept.digest(), digestByLooks(kept, true, "t9;k"));
        for (int times = 1; times <= 60; times++) {
            TandemClocks y = passedAndKicked(times);
            Checks.due("digest " + times, y.digest(), digestByLooks(y, false, ""));
        }
        TandemClocks z = Checks.runDown();
        Checks.due("digest, none goes", z.digest(), digestByLooks(z, false, ""));
    }

    private static TandemClocks passedAndKicked(int often) {
        TandemClocks x = drawnTogether();
        for (int times = 0; times < often; times++) {
            x.pass(times + 1);
            x.kick(times % 8, times * 7 - 201);
        }
        return x;
    }

    private static long hash;

    private static void mix(long value) {
        hash = 31 * hash + value;
    }

    static long digestByLooks(TandemClocks x, boolean kept, String buffer) {
        hash = 3659;
        for (int what = 0; what <= 9; what++) {
            mix(x.count(what));
        }
        for (int setting = 0; setting <= 2; setting++) {
            mix(x.setting(setting));
        }
        for (int clock = 0; clock < 8; clock++) {
            for (int what = 0; what <= 10; what++) {
                mix(x.clock(clock, what));
            }
        }
        for (int clock = 0; clock < 8; clock++) {
            for (int other = clock + 1; other < 8; other++) {
                for (int what = 0; what <= 2; what++) {
                    mix(x.pair(clock, other, what));
                }
            }
        }
        for (int beam = 0; beam < 3; beam++) {
            for (int what = 0; what <= 4; what++) {
                mix(x.beam(beam, what));
            }
        }
        for (int clock = 0; clock < 8; clock++) {
            for (int what = 0; what <= 2; what++) {
                mix(x.ifPassed(20, clock, what));
            }
        }
        mix(x.lockedIn(0, 3));
        mix(x.nextStrike());
        mix(Double.doubleToLongBits(x.stepShare()));
        mix(Float.floatToIntBits(x.meanGap()));
        mix(kept ? 1 : 0);
        mix(buffer.length());
        for (int at = 0; at < buffer.length(); at++) {
            mix(buffer.charAt(at));
        }
        return hash;
    }

    private static void nothingIsChanged() {
        TandemClocks x = drawnTogether();
        long before = x.digest();
        x.ifPassed(200, 3, 2);
        x.lockedIn(1, 4);
        x.bestGive(1);
        x.nextStrike();
        x.stepShare();
        x.meanGap();
        Checks.due("digest behind all", x.digest(), before);
        Checks.due("saved", x.count(9), 5);
    }
}
