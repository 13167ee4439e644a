/** Each sentence of "Terms" up to the settings that names a boundary case: clocks, beams, ticks, locked clocks. */
public final class TermsBoundsTest {
    private static final String TERMS = "Terms";

    public static void main(String[] args) {
        divisionsAreRoundedTowards0();
        threeBeams();
        givesOfBeams();
        eightClocks();
        firstBeamsOfClocks();
        speedsOfClocks();
        phasesOfClocks();
        springsOfClocks();
        aClockGoes();
        gapsOf500OrMore();
        gapsBelowMinus500();
        allGaps();
        pullsAreFoundFirst();
        pullsOverOtherClocksThatGo();
        pullsOfManyOrOfNone();
        pullsAreBounded();
        sumsAreBoundedAndNotTheirParts();
        divisionsByThemselves();
        notByLessThan0();
        strikesAt1000();
        farthestStrike();
        lastStrikeOfASpring();
        nearIfBothGo();
        nearOnOneBeam();
        nearAtSetting1();
        nearAtTheEndOfATick();
        oneTickMoreOtherwise0();
        lockedFromSetting2On();
        lockedAsSetting2IsNow();
        aGroupByItself();
        groupsAndSoOn();
        groupsAcrossBeams();
        movedToAnotherBeam();
        otherDeedsLeaveTicksNear();
        firstSettings();
        boundsOfSettings();
        noneIsMinus1();
        Checks.end("TermsBoundsTest");
    }

    // ---- clocks, beams

    private static void divisionsAreRoundedTowards0() {
        Bounds.hold(TERMS, "Pulls, gaps and kicks can be below 0; divisions are rounded towards 0.");
        int[] gaps = {0, 1, 199, 200, 201, 399, 400};
        int[] pulls = {0, 0, 0, 1, 1, 1, 2};
        for (int at = 0; at < gaps.length; at++) {
            TandemClocks x = Bounds.two(1, gaps[at]);
            Checks.due("pull by a gap of " + gaps[at], x.clock(2, 5), pulls[at]);
            Checks.due("pull by a gap of -" + gaps[at], x.clock(5, 5), -pulls[at]);
            Checks.due("gap", x.pair(5, 2, 0), -gaps[at]);
            x.pass(1);
            Checks.due("way by a gap of " + gaps[at], x.clock(2, 6), 32 + pulls[at]);
            Checks.due("way by a gap of -" + gaps[at], x.clock(5, 6), 35 - pulls[at]);
        }
        TandemClocks kicked = new TandemClocks();
        kicked.kick(4, -3);
        Checks.due("sum of kicks", kicked.clock(4, 7), -3);
    }

    private static void threeBeams() {
        Bounds.hold(TERMS, "There are 3 beams, numbered from 0");
        TandemClocks x = new TandemClocks();
        Checks.due("first beam", x.beam(0, 1), 73);
        Checks.due("last beam", x.beam(2, 1), 36);
        Checks.due("to the first beam", x.move(7, 0), 3);
        Checks.due("to the last beam", x.move(7, 2), 2);
        for (int beam : Bounds.outside(0, 2)) {
            Bounds.refused("beam(" + beam + ", 0)", Checks.INDEX, y -> y.beam(beam, 0));
            Bounds.refused("move(7, " + beam + ")", Checks.INDEX, y -> y.move(7, beam));
            Bounds.refused("give(" + beam + ", 4)", Checks.INDEX, y -> y.give(beam, 4));
            Bounds.refused("bestGive(" + beam + ")", Checks.INDEX, y -> y.bestGive(beam));
        }
    }

    private static void givesOfBeams() {
        Bounds.hold(TERMS, "each with a give, 0 to 20, at first 4.");
        TandemClocks x = new TandemClocks();
        for (int beam = 0; beam < 3; beam++) {
            Checks.due("at first", x.beam(beam, 0), 4);
            Checks.due("the least is taken", x.give(beam, 0), 4);
            Checks.due("the most is taken", x.give(beam, 20), 0);
            Checks.due("give", x.beam(beam, 0), 20);
            int index = beam;
            for (int give : Bounds.outside(0, 20)) {
                Bounds.refused("give(" + index + ", " + give + ")", Checks.ARGUMENT, y -> y.give(index, give));
            }
        }
    }

    private static void eightClocks() {
        Bounds.hold(TERMS, "There are 8 clocks, numbered from 0.");
        TandemClocks x = new TandemClocks();
        Checks.due("first clock", x.clock(0, 2), 0);
        Checks.due("last clock", x.clock(7, 2), 700);
        for (int clock : Bounds.outside(0, 7)) {
            Bounds.refused("kick(" + clock + ", 1)", Checks.INDEX, y -> y.kick(clock, 1));
            Bounds.refused("move(" + clock + ", 0)", Checks.INDEX, y -> y.move(clock, 0));
            Bounds.refused("wind(" + clock + ")", Checks.INDEX, y -> y.wind(clock));
            Bounds.refused("speed(" + clock + ", 30)", Checks.INDEX, y -> y.speed(clock, 30));
            Bounds.refused("clock(" + clock + ", 0)", Checks.INDEX, y -> y.clock(clock, 0));
            Bounds.refused("pair(" + clock + ", 0, 0)", Checks.INDEX, y -> y.pair(clock, 0, 0));
            Bounds.refused("pair(7, " + clock + ", 0)", Checks.INDEX, y -> y.pair(7, clock, 0));
            Bounds.refused("ifPassed(1, " + clock + ", 0)", Checks.INDEX, y -> y.ifPassed(1, clock, 0));
            Bounds.refused("lockedIn(" + clock + ", 0)", Checks.INDEX, y -> y.lockedIn(clock, 0));
            Bounds.refused("lockedIn(7, " + clock + ")", Checks.INDEX, y -> y.lockedIn(7, clock));
        }
    }

    private static void firstBeamsOfClocks() {
        Bounds.hold(TERMS, "A clock hangs on a beam (at first the clock k on the beam k modulo 3)");
        TandemClocks x = new TandemClocks();
        int[] beams = {0, 1, 2, 0, 1, 2, 0, 1};
        for (int clock = 0; clock < 8; clock++) {
            Checks.due("beam of " + clock, x.clock(clock, 0), beams[clock]);
        }
    }

    private static void speedsOfClocks() {
        Bounds.hold(TERMS, "has a speed, 10 to 60 (at first 30 and its number)");
        TandemClocks x = Checks.withoutPulls();
        for (int clock = 0; clock < 8; clock++) {
            Checks.due("at first", x.clock(clock, 1), 30 + clock);
            Checks.due("the least is taken", x.speed(clock, 10), 30 + clock);
            Checks.due("the most is taken", x.speed(clock, 60), 10);
            Checks.due("speed", x.clock(clock, 1), 60);
        }
        for (int speed : Bounds.outside(10, 60)) {
            Bounds.refused("speed(0, " + speed + ")", Checks.ARGUMENT, y -> y.speed(0, speed));
            Bounds.refused("speed(7, " + speed + ")", Checks.ARGUMENT, y -> y.speed(7, speed));
        }
    }

    private static void phasesOfClocks() {
        Bounds.hold(TERMS, "a phase, 0 to 999 (at first 100 times its number)");
        TandemClocks x = Checks.withoutPulls();
        for (int clock = 0; clock < 8; clock++) {
            Checks.due("at first", x.clock(clock, 2), 100 * clock);
        }
        Checks.putPhase(x, 0, 999);
        Checks.due("the most", x.clock(0, 2), 999);
        Checks.due("1 more, by a kick", x.kick(0, 1), 0);
        Checks.due("1 less, by a kick", x.kick(0, -1), 999);
        x.pass(1);
        Checks.due("more by a tick", x.clock(0, 2), 29);
        Checks.putPhase(x, 0, 969);
        x.pass(1);
        Checks.due("the most by a tick", x.clock(0, 2), 999);
        Checks.putPhase(x, 0, 970);
        x.pass(1);
        Checks.due("the least by a tick", x.clock(0, 2), 0);
    }

    private static void springsOfClocks() {
        Bounds.hold(TERMS, "and a spring, 0 to 99 (at first 50).");
        TandemClocks x = new TandemClocks();
        for (int clock = 0; clock < 8; clock++) {
            Checks.due("at first", x.clock(clock, 3), 50);
        }
        x.wind(7);
        Checks.due("wound", x.clock(7, 3), 99);
        Checks.due("not wound further", x.wind(7), 0);
        Checks.due("the most", x.clock(7, 3), 99);
        TandemClocks down = Checks.runDown();
        for (int clock = 0; clock < 8; clock++) {
            Checks.due("the least", down.clock(clock, 3), 0);
            Checks.due("strikes", down.clock(clock, 4), 50);
        }
        down.pass(200);
        Checks.due("not less", down.clock(0, 3), 0);
    }

    private static void aClockGoes() {
        Bounds.hold(TERMS, "A clock goes if its spring is above 0.");
        TandemClocks x = Bounds.beforeLastStrike(0, 3);
        x.move(6, 1);
        x.give(0, 20);
        x.set(0, 50);
        Checks.due("spring of 1", x.clock(0, 3), 1);
        Checks.due("clocks that go", x.count(2), 8);
        Checks.due("those of the beam", x.beam(0, 2), 9);
        Checks.due("its pull", x.clock(0, 5), -1);
        Checks.due("it pulls", x.clock(3, 5), 1);
        x.pass(1);
        Checks.due("it goes on", x.clock(0, 6), 49950 + 49);
        x.pass(1);
        Checks.due("spring of 0", x.clock(0, 3), 0);
        Checks.due("clocks that go", x.count(2), 7);
        Checks.due("those of the beam", x.beam(0, 2), 8);
        int phase = x.clock(0, 2);
        x.kick(3, 100);
        Checks.due("no pull", x.clock(0, 5), 0);
        Checks.due("it does not pull", x.clock(3, 5), 0);
        x.pass(5);
        Checks.due("it does not go on", x.clock(0, 2), phase);
        x.wind(0);
        Checks.due("it goes again", x.beam(0, 2), 9);
    }

    private static void gapsOf500OrMore() {
        Bounds.hold(TERMS, "less 1000 if that is 500 or more");
        int[] phases = {499, 500, 501, 999};
        int[] gaps = {499, -500, -499, -1};
        for (int at = 0; at < phases.length; at++) {
            TandemClocks x = new TandemClocks();
            Checks.putPhase(x, 7, phases[at]);
            Checks.due("gap from 0 to " + phases[at], x.pair(0, 7, 0), gaps[at]);
        }
    }

    private static void gapsBelowMinus500() {
        Bounds.hold(TERMS, "and 1000 more if that is below -500");
        int[] phases = {499, 500, 501, 999};
        int[] gaps = {-499, -500, 499, 1};
        for (int at = 0; at < phases.length; at++) {
            TandemClocks x = new TandemClocks();
            Checks.putPhase(x, 7, phases[at]);
            Checks.due("gap from " + phases[at] + " to 0", x.pair(7, 0, 0), gaps[at]);
        }
    }

    private static void allGaps() {
        Bounds.hold(TERMS, "so it is from -500 to 499.");
        for (int own = 0; own < 1000; own += 37) {
            TandemClocks x = new TandemClocks();
            Checks.putPhase(x, 1, own);
            for (int other = 3; other < 1000; other += 41) {
                Checks.putPhase(x, 6, other);
                int gap = Math.floorMod(other - own + 500, 1000) - 500;
                Checks.due("gap from " + own + " to " + other, x.pair(1, 6, 0), gap);
            }
        }
    }

    // ---- a tick

    private static void pullsAreFoundFirst() {
        Bounds.hold(TERMS, "the pulls of all clocks that go are found first, by the phases as they are");
        for (int lower : new int[] {960, 0}) {
            TandemClocks x = new TandemClocks();
            x.set(0, 50);
            x.give(2, 20);
            Checks.putPhase(x, 2, lower);
            Checks.putPhase(x, 5, lower == 0 ? 960 : 0);
            int pull = lower == 0 ? -4 : 4;
            x.pass(1);
            Checks.due("way of 2", x.clock(2, 6), 32 + pull);
            Checks.due("way of 5, as if 2 had not gone on", x.clock(5, 6), 35 - pull);
        }
    }

    private static void pullsOverOtherClocksThatGo() {
        Bounds.hold(TERMS, "over all other clocks that go and hang on the same beam");
        TandemClocks x = Bounds.two(20, 80);
        Checks.due("both go", x.clock(2, 5), 8);
        x.move(5, 1);
        Checks.due("alone on its beam", x.clock(2, 5), 0);
        TandemClocks down = Checks.runDown();
        down.give(2, 20);
        Checks.putPhase(down, 2, 100);
        Checks.putPhase(down, 5, 180);
        down.wind(2);
        Checks.due("the other one does not go", down.clock(2, 5), 0);
        Checks.due("it does not go itself", down.clock(5, 5), 0);
        down.pass(1);
        Checks.due("not pulled in the tick", down.clock(2, 2), 160);
        Checks.due("does not go on", down.clock(5, 2), 180);
        down.wind(5);
        Checks.due("both go", down.clock(2, 5), 2);
    }

    private static void pullsOfManyOrOfNone() {
        Bounds.hold(TERMS, "of the gap to this other clock times the give of the beam, divided by 200");
        TandemClocks x = Bounds.inOneRow(10);
        x.set(0, 50);
        x.give(0, 20);
        int[] pulls = {28, 20, 12, 4, -4, -12, -20, -28};
        for (int clock = 0; clock < 8; clock++) {
            Checks.due("pull of " + clock, x.clock(clock, 5), pulls[clock]);
        }
        x.pass(1);
        for (int clock = 0; clock < 8; clock++) {
            Checks.due("way of " + clock, x.clock(clock, 6), 30 + pulls[clock]);
        }
        x.give(0, 0);
        Checks.due("a give of 0", x.clock(0, 5), 0);
        TandemClocks two = Bounds.two(19, 100);
        Checks.due("a give of 19", two.clock(2, 5), 9);
        two.set(0, 50);
        two.give(2, 20);
        Checks.due("the give of its own beam", two.clock(5, 5), -10);
        two.give(2, 1);
        Checks.due("the give of its own beam", two.clock(5, 5), 0);
    }

    private static void pullsAreBounded() {
        Bounds.hold(TERMS, "but it is at most setting 0, and at least 0 less setting 0");
        int[] most = {0, 1, 9, 10, 49};
        for (int bound : most) {
            for (int pull = Math.max(0, bound - 1); pull <= Math.min(49, bound + 1); pull++) {
                TandemClocks x = Bounds.two(20, 10 * pull);
                x.set(0, bound);
                x.speed(2, 60);
                x.speed(5, 60);
                int told = Math.min(pull, bound);
                Checks.due("pull of " + pull + " by setting " + bound, x.clock(2, 5), told);
                Checks.due("pull of -" + pull + " by setting " + bound, x.clock(5, 5), -told);
                x.pass(1);
                Checks.due("way by " + pull + " and setting " + bound, x.clock(2, 6), 60 + told);
                Checks.due("way by -" + pull + " and setting " + bound, x.clock(5, 6), 60 - told);
            }
        }
    }

    /** Clock 1 is pulled by 2 and by 5, each time by a tenth of the gap. */
    private static void sumsAreBoundedAndNotTheirParts() {
        Bounds.hold(TERMS, "the pull of a clock is the sum");
        TandemClocks x = new TandemClocks();
        x.move(1, 2);
        x.set(0, 25);
        x.give(2, 20);
        Checks.putPhase(x, 1, 0);
        Checks.putPhase(x, 2, 300);
        Checks.putPhase(x, 5, 500);
        Checks.due("30 and -50", x.clock(1, 5), -20);
        Checks.putPhase(x, 5, 200);
        x.set(0, 50);
        Checks.due("30 and 20", x.clock(1, 5), 50);
        Checks.putPhase(x, 5, 210);
        Checks.due("30 and 21", x.clock(1, 5), 50);
        Checks.putPhase(x, 5, 190);
        Checks.due("30 and 19", x.clock(1, 5), 49);
        Checks.putPhase(x, 2, 700);
        Checks.putPhase(x, 5, 800);
        Checks.due("-30 and -20", x.clock(1, 5), -50);
        Checks.putPhase(x, 5, 790);
        Checks.due("-30 and -21", x.clock(1, 5), -50);
        Checks.putPhase(x, 5, 810);
        Checks.due("-30 and -19", x.clock(1, 5), -49);
    }

    private static void divisionsByThemselves() {
        Bounds.hold(TERMS, "Each of the divisions is rounded by itself.");
        TandemClocks x = new TandemClocks();
        x.move(1, 2);
        x.give(2, 1);
        Checks.putPhase(x, 1, 0);
        Checks.putPhase(x, 2, 199);
        Checks.putPhase(x, 5, 199);
        Checks.due("0 and 0, not 398 / 200", x.clock(1, 5), 0);
        Checks.putPhase(x, 2, 801);
        Checks.putPhase(x, 5, 602);
        Checks.due("0 and -1, not -597 / 200", x.clock(1, 5), -1);
        Checks.putPhase(x, 5, 200);
        Checks.due("0 and 1, not 1 / 200", x.clock(1, 5), 1);
    }

    private static void notByLessThan0() {
        Bounds.hold(TERMS, "goes on by its speed and its pull together, but not by less than 0");
        int[] gaps = {-90, -100, -110, -490};
        int[] ways = {1, 0, 0, 0};
        for (int at = 0; at < gaps.length; at++) {
            TandemClocks x = Bounds.two(20, gaps[at]);
            x.set(0, 50);
            x.speed(2, 10);
            Checks.due("pull", x.clock(2, 5), gaps[at] / 10);
            x.pass(1);
            Checks.due("way by a pull of " + gaps[at] / 10, x.clock(2, 6), ways[at]);
            Checks.due("phase behind it", x.clock(2, 2), 200 + ways[at]);
        }
        TandemClocks atZero = Bounds.two(20, -110);
        atZero.set(0, 50);
        atZero.speed(2, 10);
        Checks.putPhase(atZero, 2, 0);
        Checks.putPhase(atZero, 5, 890);
        Checks.due("speed and pull are -1", atZero.clock(2, 5), -11);
        Checks.due("no strike", atZero.pass(1), 0);
        Checks.due("stays at 0", atZero.clock(2, 2), 0);
    }

    private static void strikesAt1000() {
        Bounds.hold(TERMS, "If the phase is 1000 or more then, the clock strikes");
        int[] phases = {967, 968, 969, 999};
        for (int phase : phases) {
            TandemClocks x = Checks.withoutPulls();
            Checks.putPhase(x, 2, phase);
            int strikes = phase + 32 >= 1000 ? 1 : 0;
            Checks.due("strikes from " + phase, x.pass(1), strikes);
            Checks.due("its strikes", x.clock(2, 4), strikes);
            Checks.due("its phase", x.clock(2, 2), phase + 32 - 1000 * strikes);
            Checks.due("its spring", x.clock(2, 3), 50 - strikes);
            Checks.due("strikes of all", x.count(1), strikes);
            Checks.due("ticks with a strike", x.count(8), strikes);
        }
    }

    private static void farthestStrike() {
        Bounds.hold(TERMS, "its phase becomes 1000 less, and its spring 1 less.");
        TandemClocks x = new TandemClocks();
        x.move(1, 2);
        x.set(0, 50);
        x.give(2, 20);
        x.speed(1, 60);
        Checks.putPhase(x, 1, 999);
        Checks.putPhase(x, 2, 300);
        Checks.putPhase(x, 5, 300);
        Checks.due("the greatest pull", x.clock(1, 5), 50);
        Checks.due("one strike", x.pass(1), 1);
        Checks.due("999 + 60 + 50 - 1000", x.clock(1, 2), 109);
        Checks.due("way", x.clock(1, 6), 110);
        Checks.due("spring", x.clock(1, 3), 49);
        TandemClocks wound = Checks.withoutPulls();
        wound.wind(1);
        Checks.putPhase(wound, 1, 969);
        wound.pass(1);
        Checks.due("phase", wound.clock(1, 2), 0);
        Checks.due("spring 1 less than the most", wound.clock(1, 3), 98);
    }

    private static void lastStrikeOfASpring() {
        Bounds.hold(TERMS, "its phase becomes 1000 less, and its spring 1 less.");
        TandemClocks x = Bounds.beforeLastStrike(0, 3);
        x.speed(0, 60);
        Checks.due("spring before", x.clock(0, 3), 1);
        int strikes = x.count(1);
        int struck = x.pass(1);
        Checks.due("the last strike is counted", x.count(1) - strikes, struck);
        Checks.due("its strikes", x.clock(0, 4), 50);
        Checks.due("spring", x.clock(0, 3), 0);
        Checks.due("it goes on by all of its speed", x.clock(0, 2), 10);
        x.pass(200);
        Checks.due("but no more", x.clock(0, 2), 10);
        Checks.due("and strikes no more", x.clock(0, 4), 50);
        Checks.due("spring", x.clock(0, 3), 0);
    }

    // ---- near and locked

    private static void nearIfBothGo() {
        Bounds.hold(TERMS, "At the end of the tick each pair of clocks is looked at: if both go and hang on the same beam");
        int[][] pairs = {{0, 3}, {3, 0}};
        for (int[] pair : pairs) {
            TandemClocks x = Bounds.beforeLastStrike(pair[0], pair[1]);
            Checks.due("near while both go", x.pair(0, 3, 1), 999);
            x.pass(1);
            Checks.due("the spring of " + pair[0] + " runs down in this tick", x.clock(pair[0], 3), 0);
            Checks.due("the gap is small", Math.abs(x.pair(0, 3, 0)), 10);
            Checks.due("but near for 0 ticks", x.pair(0, 3, 1), 0);
            x.pass(1);
            Checks.due("still near for 0 ticks", x.pair(3, 0, 1), 0);
        }
        TandemClocks down = Checks.runDown();
        Checks.putPhase(down, 0, 500);
        Checks.putPhase(down, 3, 500);
        down.pass(3);
        Checks.due("neither goes", down.pair(0, 3, 1), 0);
    }

    private static void nearOnOneBeam() {
        Bounds.hold(TERMS, "At the end of the tick each pair of clocks is looked at: if both go and hang on the same beam");
        TandemClocks x = Bounds.sideBySide(0);
        x.speed(1, 30);
        Checks.putPhase(x, 1, 0);
        x.pass(1);
        Checks.due("on one beam", x.pair(0, 3, 1), 1);
        Checks.due("on unlike beams", x.pair(0, 1, 1), 0);
        Checks.due("on unlike beams, the other way", x.pair(1, 0, 1), 0);
    }

    private static void nearAtSetting1() {
        Bounds.hold(TERMS, "is, without its sign, at most setting 1, they have been near for one tick more");
        for (int widest : new int[] {0, 1, 40, 200}) {
            for (int gap : new int[] {widest, -widest, widest + 1, -widest - 1}) {
                TandemClocks x = Bounds.sideBySide(gap);
                x.set(1, widest);
                x.pass(1);
                int near = Math.abs(gap) <= widest ? 1 : 0;
                Checks.due("gap", x.pair(0, 3, 0), gap);
                Checks.due("near at " + gap + " by setting " + widest, x.pair(0, 3, 1), near);
            }
        }
    }

    private static void nearAtTheEndOfATick() {
        Bounds.hold(TERMS, "At the end of the tick each pair of clocks is looked at");
        TandemClocks parting = Bounds.sideBySide(40);
        parting.speed(3, 31);
        parting.pass(1);
        Checks.due("gap at the end", parting.pair(0, 3, 0), 41);
        Checks.due("not near at the end", parting.pair(0, 3, 1), 0);
        TandemClocks meeting = Bounds.sideBySide(41);
        meeting.speed(0, 31);
        meeting.pass(1);
        Checks.due("gap at the end", meeting.pair(0, 3, 0), 40);
        Checks.due("near at the end", meeting.pair(0, 3, 1), 1);
        TandemClocks striking = Bounds.sideBySide(40);
        Checks.putPhase(striking, 0, 930);
        Checks.putPhase(striking, 3, 970);
        striking.pass(1);
        Checks.due("one struck", striking.clock(3, 2), 0);
        Checks.due("near all the same", striking.pair(0, 3, 1), 1);
    }

    private static void oneTickMoreOtherwise0() {
        Bounds.hold(TERMS, "otherwise they have been near for 0 ticks.");
        TandemClocks x = Bounds.sideBySide(40);
        x.pass(200);
        Checks.due("one more in each tick", x.pair(0, 3, 1), 200);
        x.pass(1);
        Checks.due("one more, without an end", x.pair(0, 3, 1), 201);
        x.kick(3, 1);
        x.pass(1);
        Checks.due("0 again", x.pair(0, 3, 1), 0);
        x.pass(1);
        Checks.due("0 still", x.pair(0, 3, 1), 0);
        x.kick(3, -1);
        x.pass(1);
        Checks.due("1 again", x.pair(0, 3, 1), 1);
    }

    private static void lockedFromSetting2On() {
        Bounds.hold(TERMS, "Two clocks are locked if they have been near for setting 2 ticks (as it is now) or more.");
        for (int ticks : new int[] {1, 8, 50}) {
            TandemClocks x = Bounds.sideBySide(0);
            x.set(2, ticks);
            if (ticks > 1) {
                x.pass(ticks - 1);
            }
            Checks.due("one tick less than " + ticks, x.clock(0, 8), 0);
            Checks.due("pairs", x.count(3), 0);
            x.pass(1);
            Checks.due("in " + ticks + " ticks", x.clock(0, 8), 8);
            Checks.due("the other one", x.clock(3, 8), 1);
            x.pass(1);
            Checks.due("one tick more than " + ticks, x.clock(0, 8), 8);
            Checks.due("pairs", x.count(3), 1);
        }
    }

    private static void lockedAsSetting2IsNow() {
        Bounds.hold(TERMS, "setting 2 ticks (as it is now)");
        TandemClocks x = Bounds.sideBySide(0);
        x.pass(7);
        Checks.due("7 of 8 ticks", x.count(3), 0);
        x.set(2, 7);
        Checks.due("7 of 7 ticks", x.count(3), 1);
        x.set(2, 50);
        Checks.due("7 of 50 ticks", x.count(3), 0);
        x.set(2, 1);
        Checks.due("7 of 1 tick", x.count(3), 1);
        Checks.due("ticks near", x.pair(0, 3, 1), 7);
        TandemClocks y = new TandemClocks();
        y.set(2, 1);
        Checks.due("0 of 1 tick", y.count(3), 0);
    }

    private static void aGroupByItself() {
        Bounds.hold(TERMS, "a clock that is locked with none is a group by itself.");
        TandemClocks x = new TandemClocks();
        for (int clock = 0; clock < 8; clock++) {
            Checks.due("group", x.clock(clock, 10), 1 << clock);
            Checks.due("lowest", x.clock(clock, 9), clock);
        }
        Checks.due("groups by joining", x.count(4), 8);
        Checks.due("groups by walking", x.count(5), 8);
        Checks.due("the greatest", x.count(6), 1);
    }

    private static void groupsAndSoOn() {
        Bounds.hold(TERMS, "A group is a clock with all that are locked with it, all that are locked with these, and so on");
        TandemClocks chain = Bounds.inOneRow(40);
        chain.pass(8);
        Checks.due("pairs of a chain", chain.count(3), 7);
        Checks.due("locked with the first", chain.clock(0, 8), 2);
        Checks.due("locked with the last", chain.clock(7, 8), 64);
        Checks.due("group of the first", chain.clock(0, 10), 255);
        Checks.due("group of the last", chain.clock(7, 10), 255);
        Checks.due("one group by joining", chain.count(4), 1);
        Checks.due("one group by walking", chain.count(5), 1);
        Checks.due("the greatest", chain.count(6), 8);
        chain.move(4, 1);
        Checks.due("group below a gap in the chain", chain.clock(0, 10), 15);
        Checks.due("the one taken out", chain.clock(4, 10), 16);
        Checks.due("group above it", chain.clock(7, 10), 224);
        Checks.due("groups by joining", chain.count(4), 3);
        Checks.due("groups by walking", chain.count(5), 3);
        Checks.due("the greatest", chain.count(6), 4);
        TandemClocks none = Bounds.inOneRow(41);
        none.pass(8);
        Checks.due("too far apart by 1", none.count(4), 8);
    }

    /** Clocks stay locked only on one beam, so two groups may stand on two beams at the same phases. */
    private static void groupsAcrossBeams() {
        Bounds.hold(TERMS, "a clock that is locked with none is a group by itself.");
        TandemClocks x = Checks.withoutPulls();
        x.set(2, 1);
        for (int clock = 0; clock < 8; clock++) {
            x.speed(clock, 30);
            Checks.putPhase(x, clock, 0);
        }
        x.pass(1);
        int[] masks = {73, 146, 36};
        for (int clock = 0; clock < 8; clock++) {
            Checks.due("group of " + clock, x.clock(clock, 10), masks[clock % 3]);
        }
        Checks.due("groups by joining", x.count(4), 3);
        Checks.due("groups by walking", x.count(5), 3);
        Checks.due("pairs", x.count(3), 7);
    }

    private static void movedToAnotherBeam() {
        Bounds.hold(TERMS, "When a clock is moved to another beam, it and each other clock have been near for 0 ticks");
        for (int moved = 0; moved < 8; moved++) {
            TandemClocks x = Bounds.inOneRow(0);
            x.pass(9);
            x.move(moved, 2);
            for (int clock = 0; clock < 8; clock++) {
                for (int other = 0; other < 8; other++) {
                    if (clock != other) {
                        int near = clock == moved || other == moved ? 0 : 9;
                        Checks.due("near, " + moved + " is moved", x.pair(clock, other, 1), near);
                    }
                }
            }
            x.move(moved, 0);
            Checks.due("0 also when it is moved back", x.clock(moved, 8), 0);
            x.pass(1);
            Checks.due("1 tick then", x.pair(moved, (moved + 1) % 8, 1), 1);
        }
        Bounds.refused("a move to its own beam", Checks.STATE, y -> y.move(4, 1));
    }

    private static void otherDeedsLeaveTicksNear() {
        Bounds.hold(TERMS, "by all other deeds the ticks for which clocks have been near stay as they are until the next tick.");
        TandemClocks x = Bounds.inOneRow(0);
        x.pass(9);
        x.kick(0, 500);
        x.wind(0);
        x.speed(0, 60);
        x.give(0, 20);
        x.set(0, 50);
        x.set(1, 0);
        x.keep();
        Checks.write(x, "k3+300;w3");
        x.obey();
        for (int clock = 0; clock < 8; clock++) {
            for (int other = 0; other < 8; other++) {
                if (clock != other) {
                    Checks.due("near", x.pair(clock, other, 1), 9);
                    Checks.due("locked", x.pair(clock, other, 2), 0);
                }
            }
        }
        x.give(0, 0);
        x.pass(1);
        Checks.due("0 behind the next tick", x.pair(0, 1, 1), 0);
        Checks.due("0 behind the next tick", x.pair(2, 3, 1), 0);
        Checks.due("10 behind the next tick", x.pair(1, 2, 1), 10);
        x.undo();
        Checks.due("9 again behind undo", x.pair(0, 1, 1), 9);
        x.pass(1);
        x.goBack();
        Checks.due("9 again behind goBack", x.pair(2, 3, 1), 9);
    }

    // ---- settings

    private static void firstSettings() {
        TandemClocks x = new TandemClocks();
        Bounds.hold(TERMS, "0: the greatest pull, 0 to 50, at first 9");
        Checks.due("at first", x.setting(0), 9);
        Bounds.hold(TERMS, "1: the widest gap of clocks that are near, 0 to 200, at first 40");
        Checks.due("at first", x.setting(1), 40);
        Bounds.hold(TERMS, "2: ticks until they are locked, 1 to 50, at first 8.");
        Checks.due("at first", x.setting(2), 8);
    }

    private static void boundsOfSettings() {
        String[] sentences = {"the greatest pull, 0 to 50", "clocks that are near, 0 to 200", "until they are locked, 1 to 50"};
        int[] least = {0, 0, 1};
        int[] most = {50, 200, 50};
        for (int setting = 0; setting < 3; setting++) {
            Bounds.hold(TERMS, sentences[setting]);
            int index = setting;
            TandemClocks x = new TandemClocks();
            x.set(index, least[index]);
            Checks.due("the least is taken", x.setting(index), least[index]);
            Checks.due("the most is taken", x.set(index, most[index]), least[index]);
            Checks.due("the most is taken", x.setting(index), most[index]);
            for (int value : Bounds.outside(least[index], most[index])) {
                Bounds.refused("set(" + index + ", " + value + ")", Checks.ARGUMENT, y -> y.set(index, value));
            }
        }
    }

    private static void noneIsMinus1() {
        Bounds.hold(TERMS, "`NONE = -1`: There is nothing to return.");
        Checks.due("NONE", TandemClocks.NONE, -1);
    }
}
