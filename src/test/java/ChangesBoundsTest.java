/** Each sentence of promises 1 to 8 that names a boundary case. */
public final class ChangesBoundsTest {
    public static void main(String[] args) {
        promise1ClocksAsTold();
        promise1EmptyBufferNoSnapshot();
        promise2Ticks();
        promise2HowOftenClocksStruck();
        promise2Undoable();
        promise3WhetherItGoesOrNot();
        promise3Modulo1000();
        promise3PhaseThen();
        promise3DoesNotStrike();
        promise3Clock();
        promise3By();
        promise3Undoable();
        promise4HowManyOthers();
        promise4ClockAndBeam();
        promise4HangsOnItAlready();
        promise4Undoable();
        promise5SpringIs99();
        promise5ByHowMuchMore();
        promise5Clock();
        promise5Undoable();
        promise6Speed();
        promise6Clock();
        promise6Undoable();
        promise7Give();
        promise7Beam();
        promise7Undoable();
        promise8Value();
        promise8Setting();
        promise8Undoable();
        Bounds.end("ChangesBoundsTest", 1, 8);
    }

    // ---- promise 1

    private static void promise1ClocksAsTold() {
        Bounds.hold("Promise 1", "Creates clocks as told above");
        String first = Bounds.told(new TandemClocks());
        TandemClocks x = new TandemClocks();
        int[] pulls = {-2, -2, 6, 0, 0, -6, 2, 2};
        for (int k = 0; k < 8; k++) {
            int[] numbers = {k % 3, 30 + k, 100 * k, 50, 0, pulls[k], 0, 0, 0, k, 1 << k};
            for (int what = 0; what <= 10; what++) {
                Checks.due("number " + what + " of " + k, x.clock(k, what), numbers[what]);
            }
            for (int other = 0; other < k; other++) {
                Checks.due("near", x.pair(k, other, 1), 0);
            }
        }
        int[] counts = {0, 0, 8, 0, 8, 8, 1, 0, 0, 0};
        for (int what = 0; what <= 9; what++) {
            Checks.due("count " + what, x.count(what), counts[what]);
        }
        x.pass(200);
        x.kick(0, 1);
        Checks.dueText("a new one, behind calls of another one,", Bounds.told(new TandemClocks()), first);
    }

    private static void promise1EmptyBufferNoSnapshot() {
        Bounds.hold("Promise 1", "with an empty buffer and no snapshot.");
        Checks.due("firstError", new TandemClocks().firstError(), 0);
        Checks.due("clearBuffer", new TandemClocks().clearBuffer(), 0);
        Checks.due("append", new TandemClocks().append('k'), 1);
        Bounds.refusedBy(TandemClocks::new, "goBack", Checks.STATE, x -> x.goBack());
        Bounds.refusedBy(TandemClocks::new, "undo", Checks.STATE, x -> x.undo());
        Bounds.refusedBy(TandemClocks::new, "obey", Checks.ARGUMENT, x -> x.obey());
    }

    // ---- promise 2

    private static void promise2Ticks() {
        Bounds.hold("Promise 2", "- `ticks`: 1 to 200");
        for (int ticks : new int[] {1, 2, 199, 200}) {
            TandemClocks x = Checks.withoutPulls();
            x.pass(ticks);
            Checks.due("ticks", x.count(0), ticks);
            Checks.due("way", x.clock(0, 6), 30 * ticks);
        }
        Bounds.hold("Promise 2", "Throws `IllegalArgumentException` if ticks is out of range");
        for (int ticks : Bounds.outside(1, 200)) {
            Bounds.refused("pass(" + ticks + ")", Checks.ARGUMENT, x -> x.pass(ticks));
        }
    }

    private static void promise2HowOftenClocksStruck() {
        Bounds.hold("Promise 2", "Returns how often clocks struck in them.");
        TandemClocks x = Bounds.inOneRow(0);
        Checks.due("none struck in 33 ticks", x.pass(33), 0);
        Checks.due("all struck in one", x.pass(1), 8);
        Checks.due("as many are counted", x.count(1), 8);
        Checks.due("none struck in the next", x.pass(1), 0);
        Checks.due("each struck 6 times in 200", x.pass(200), 8 * 6);
        Checks.due("none goes", Checks.runDown().pass(200), 0);
    }

    private static void promise2Undoable() {
        Bounds.hold("Promise 2", "Undoable, as one call.");
        for (int ticks : new int[] {1, 200}) {
            TandemClocks x = new TandemClocks();
            long before = x.digest();
            x.pass(ticks);
            Checks.due("saved", x.count(9), 1);
            Checks.due("undo", x.undo(), 0);
            Checks.due("as before", x.digest(), before);
        }
    }

    // ---- promise 3

    private static void promise3WhetherItGoesOrNot() {
        Bounds.hold("Promise 3", "Kicks a clock, whether it goes or not");
        TandemClocks x = Checks.runDown();
        int phase = x.clock(3, 2);
        Checks.due("kick of one that does not go", x.kick(3, -1), Math.floorMod(phase - 1, 1000));
        Checks.due("its phase", x.clock(3, 2), Math.floorMod(phase - 1, 1000));
        Checks.due("its kicks", x.clock(3, 7), -1);
        Checks.due("kicks", x.count(7), 1);
        Checks.due("its spring", x.clock(3, 3), 0);
    }

    /** A phase, a kick, and the phase that is due behind it. */
    private static final int[][] KICKS = {
        {0, -1, 999}, {0, 1, 1}, {0, 500, 500}, {0, -500, 500}, {1, -1, 0}, {1, -2, 999}, {499, 500, 999}, {499, -499, 0},
        {499, -500, 999}, {500, 499, 999}, {500, 500, 0}, {500, -500, 0}, {501, 499, 0}, {998, 1, 999}, {999, 1, 0},
        {999, 2, 1}, {999, 500, 499}};

    private static void promise3Modulo1000() {
        Bounds.hold("Promise 3", "its phase becomes more by a number, modulo 1000 (from 0 to 999).");
        for (int[] kick : KICKS) {
            TandemClocks x = new TandemClocks();
            Checks.putPhase(x, 5, kick[0]);
            x.kick(5, kick[1]);
            Checks.due("phase behind a kick by " + kick[1] + " at " + kick[0], x.clock(5, 2), kick[2]);
        }
    }

    private static void promise3PhaseThen() {
        Bounds.hold("Promise 3", "Returns its phase then.");
        for (int[] kick : KICKS) {
            TandemClocks x = new TandemClocks();
            Checks.putPhase(x, 5, kick[0]);
            Checks.due("kick by " + kick[1] + " at " + kick[0], x.kick(5, kick[1]), kick[2]);
        }
    }

    private static void promise3DoesNotStrike() {
        Bounds.hold("Promise 3", "It does not strike by that.");
        TandemClocks x = new TandemClocks();
        Checks.putPhase(x, 5, 999);
        x.kick(5, 1);
        x.kick(5, -1);
        x.kick(5, 500);
        Checks.due("strikes", x.clock(5, 4), 0);
        Checks.due("strikes of all", x.count(1), 0);
        Checks.due("ticks with a strike", x.count(8), 0);
        Checks.due("spring", x.clock(5, 3), 50);
        Checks.due("way", x.clock(5, 6), 0);
        Checks.due("ticks", x.count(0), 0);
    }

    private static void promise3Clock() {
        Bounds.hold("Promise 3", "Throws `IndexOutOfBoundsException` if there is no such clock");
        TandemClocks x = new TandemClocks();
        Checks.due("the least is taken", x.kick(0, 3), 3);
        Checks.due("the most is taken", x.kick(7, 3), 703);
        for (int clock : Bounds.outside(0, 7)) {
            Bounds.refused("kick(" + clock + ", 3)", Checks.INDEX, y -> y.kick(clock, 3));
        }
    }

    private static void promise3By() {
        Bounds.hold("Promise 3", "- `by`: -500 to 500, but not 0");
        TandemClocks x = new TandemClocks();
        Checks.due("the least is taken", x.kick(7, -500), 200);
        Checks.due("the most is taken", x.kick(7, 500), 700);
        Checks.due("1 less than 0 is taken", x.kick(7, -1), 699);
        Checks.due("1 more than 0 is taken", x.kick(7, 1), 700);
        Bounds.hold("Promise 3", "Throws `IllegalArgumentException` if by is 0 or out of range");
        Bounds.refused("kick(7, 0)", Checks.ARGUMENT, y -> y.kick(7, 0));
        for (int by : Bounds.outside(-500, 500)) {
            Bounds.refused("kick(7, " + by + ")", Checks.ARGUMENT, y -> y.kick(7, by));
        }
    }

    private static void promise3Undoable() {
        Bounds.hold("Promise 3", "Undoable.");
        TandemClocks x = new TandemClocks();
        long before = x.digest();
        x.kick(0, -1);
        Checks.due("saved", x.count(9), 1);
        Checks.due("undo", x.undo(), 0);
        Checks.due("as before", x.digest(), before);
    }

    // ---- promise 4

    private static void promise4HowManyOthers() {
        Bounds.hold("Promise 4", "Returns how many other clocks hang on this beam.");
        TandemClocks x = new TandemClocks();
        int[] clocks = {1, 2, 4, 5, 7};
        for (int at = 0; at < clocks.length; at++) {
            Checks.due("move(" + clocks[at] + ", 0)", x.move(clocks[at], 0), 3 + at);
        }
        Checks.due("all hang on it", x.beam(0, 1), 255);
        Checks.due("none hangs on it", x.move(0, 2), 0);
        Checks.due("one hangs on it", x.move(7, 2), 1);
        Checks.due("all others hang on it", x.move(0, 0), 6);
        Checks.due("all others hang on it", x.move(7, 0), 7);
    }

    private static void promise4ClockAndBeam() {
        Bounds.hold("Promise 4", "Throws `IndexOutOfBoundsException` if there is no such clock or beam");
        TandemClocks x = new TandemClocks();
        Checks.due("the least and the most", x.move(0, 2), 2);
        Checks.due("the most and the least", x.move(7, 0), 2);
        for (int clock : Bounds.outside(0, 7)) {
            Bounds.refused("move(" + clock + ", 0)", Checks.INDEX, y -> y.move(clock, 0));
            Bounds.refused("move(" + clock + ", 2)", Checks.INDEX, y -> y.move(clock, 2));
        }
        for (int beam : Bounds.outside(0, 2)) {
            Bounds.refused("move(0, " + beam + ")", Checks.INDEX, y -> y.move(0, beam));
            Bounds.refused("move(7, " + beam + ")", Checks.INDEX, y -> y.move(7, beam));
        }
    }

    private static void promise4HangsOnItAlready() {
        Bounds.hold("Promise 4", "Throws `IllegalStateException` if it hangs on this beam already");
        for (int k = 0; k < 8; k++) {
            int clock = k;
            Bounds.refusedBy(TandemClocks::new, "move(" + k + ", " + k % 3 + ")", Checks.STATE, x -> x.move(clock, clock % 3));
        }
        Bounds.refusedBy(Bounds::rich, "move(3, 1) again", Checks.STATE, x -> x.move(3, 1));
        Checks.due("back to the beam that it hung on", Bounds.rich().move(3, 0), 2);
    }

    private static void promise4Undoable() {
        Bounds.hold("Promise 4", "Undoable.");
        TandemClocks x = Bounds.inOneRow(0);
        x.pass(9);
        Checks.due("move", x.move(0, 1), 0);
        Checks.due("undo", x.undo(), 5);
        Checks.due("near as before", x.pair(0, 7, 1), 9);
        Checks.due("the beam as before", x.beam(0, 1), 255);
        Checks.due("the others as before", x.pair(6, 7, 1), 9);
    }

    // ---- promise 5

    private static void promise5SpringIs99() {
        Bounds.hold("Promise 5", "its spring is 99 then.");
        TandemClocks x = new TandemClocks();
        x.wind(0);
        Checks.due("from 50", x.clock(0, 3), 99);
        x.wind(0);
        Checks.due("from 99", x.clock(0, 3), 99);
        TandemClocks down = Checks.runDown();
        down.wind(7);
        Checks.due("from 0", down.clock(7, 3), 99);
        TandemClocks one = Bounds.beforeLastStrike(0, 3);
        one.wind(0);
        Checks.due("from 1", one.clock(0, 3), 99);
    }

    private static void promise5ByHowMuchMore() {
        Bounds.hold("Promise 5", "Returns by how much its spring becomes more.");
        TandemClocks x = new TandemClocks();
        Checks.due("at 50", x.wind(0), 49);
        Checks.due("at 99", x.wind(0), 0);
        Checks.due("at 0", Checks.runDown().wind(7), 99);
        TandemClocks one = Bounds.beforeLastStrike(0, 3);
        Checks.due("at 1", one.wind(0), 98);
        one.pass(1);
        Checks.due("98 behind a strike", one.clock(0, 3), 98);
        Checks.due("at 98", one.wind(0), 1);
    }

    private static void promise5Clock() {
        Bounds.hold("Promise 5", "Throws `IndexOutOfBoundsException` if there is no such clock");
        TandemClocks x = new TandemClocks();
        Checks.due("the least is taken", x.wind(0), 49);
        Checks.due("the most is taken", x.wind(7), 49);
        for (int clock : Bounds.outside(0, 7)) {
            Bounds.refused("wind(" + clock + ")", Checks.INDEX, y -> y.wind(clock));
        }
    }

    private static void promise5Undoable() {
        Bounds.hold("Promise 5", "Undoable.");
        TandemClocks x = new TandemClocks();
        x.wind(0);
        x.wind(0);
        Checks.due("saved", x.count(9), 2);
        x.undo();
        Checks.due("99 behind one undo", x.clock(0, 3), 99);
        x.undo();
        Checks.due("50 behind two", x.clock(0, 3), 50);
    }

    // ---- promise 6

    private static void promise6Speed() {
        Bounds.hold("Promise 6", "- `speed`: 10 to 60");
        TandemClocks x = Checks.withoutPulls();
        Checks.due("the least is taken", x.speed(0, 10), 30);
        x.pass(1);
        Checks.due("way by the least", x.clock(0, 6), 10);
        Checks.due("the most is taken", x.speed(0, 60), 10);
        x.pass(1);
        Checks.due("way by the most", x.clock(0, 6), 70);
        Checks.due("its own again", x.speed(0, 60), 60);
        Bounds.hold("Promise 6", "Throws `IllegalArgumentException` if speed is out of range");
        for (int speed : Bounds.outside(10, 60)) {
            Bounds.refused("speed(0, " + speed + ")", Checks.ARGUMENT, y -> y.speed(0, speed));
        }
    }

    private static void promise6Clock() {
        Bounds.hold("Promise 6", "Throws `IndexOutOfBoundsException` if there is no such clock");
        TandemClocks x = new TandemClocks();
        Checks.due("the least is taken", x.speed(0, 31), 30);
        Checks.due("the most is taken", x.speed(7, 31), 37);
        for (int clock : Bounds.outside(0, 7)) {
            Bounds.refused("speed(" + clock + ", 31)", Checks.INDEX, y -> y.speed(clock, 31));
        }
    }

    private static void promise6Undoable() {
        Bounds.hold("Promise 6", "Undoable.");
        TandemClocks x = new TandemClocks();
        x.speed(2, 60);
        x.speed(2, 60);
        Checks.due("saved also if nothing is changed", x.count(9), 2);
        x.undo();
        Checks.due("60 behind one undo", x.clock(2, 1), 60);
        x.undo();
        Checks.due("32 behind two", x.clock(2, 1), 32);
    }

    // ---- promise 7

    private static void promise7Give() {
        Bounds.hold("Promise 7", "- `give`: 0 to 20");
        TandemClocks x = Bounds.two(4, 400);
        x.set(0, 50);
        Checks.due("the least is taken", x.give(2, 0), 4);
        Checks.due("pull by the least", x.clock(2, 5), 0);
        Checks.due("the most is taken", x.give(2, 20), 0);
        Checks.due("pull by the most", x.clock(2, 5), 40);
        Checks.due("its own again", x.give(2, 20), 20);
        Bounds.hold("Promise 7", "Throws `IllegalArgumentException` if give is out of range");
        for (int give : Bounds.outside(0, 20)) {
            Bounds.refused("give(2, " + give + ")", Checks.ARGUMENT, y -> y.give(2, give));
        }
    }

    private static void promise7Beam() {
        Bounds.hold("Promise 7", "Throws `IndexOutOfBoundsException` if there is no such beam");
        TandemClocks x = new TandemClocks();
        Checks.due("the least is taken", x.give(0, 5), 4);
        Checks.due("the most is taken", x.give(2, 6), 4);
        Checks.due("the one between", x.beam(1, 0), 4);
        for (int beam : Bounds.outside(0, 2)) {
            Bounds.refused("give(" + beam + ", 5)", Checks.INDEX, y -> y.give(beam, 5));
        }
    }

    private static void promise7Undoable() {
        Bounds.hold("Promise 7", "Undoable.");
        TandemClocks x = new TandemClocks();
        x.give(2, 20);
        x.give(2, 20);
        Checks.due("saved also if nothing is changed", x.count(9), 2);
        x.undo();
        Checks.due("20 behind one undo", x.beam(2, 0), 20);
        x.undo();
        Checks.due("4 behind two", x.beam(2, 0), 4);
    }

    // ---- promise 8

    private static void promise8Value() {
        Bounds.hold("Promise 8", "- `value`: the new value");
        int[] least = {0, 0, 1};
        int[] most = {50, 200, 50};
        int[] first = {9, 40, 8};
        TandemClocks x = new TandemClocks();
        for (int setting = 0; setting < 3; setting++) {
            Checks.due("the least is taken", x.set(setting, least[setting]), first[setting]);
            Checks.due("the most is taken", x.set(setting, most[setting]), least[setting]);
            Checks.due("its own again", x.set(setting, most[setting]), most[setting]);
        }
        Bounds.hold("Promise 8", "Throws `IllegalArgumentException` if value is out of range");
        for (int k = 0; k < 3; k++) {
            int setting = k;
            for (int value : Bounds.outside(least[k], most[k])) {
                Bounds.refused("set(" + k + ", " + value + ")", Checks.ARGUMENT, y -> y.set(setting, value));
            }
        }
    }

    private static void promise8Setting() {
        Bounds.hold("Promise 8", "- `setting`: 0 to 2");
        TandemClocks x = new TandemClocks();
        Checks.due("the least is taken", x.set(0, 1), 9);
        Checks.due("the most is taken", x.set(2, 3), 8);
        Checks.due("the one between", x.setting(1), 40);
        Bounds.hold("Promise 8", "Throws `IndexOutOfBoundsException` if there is no such setting");
        for (int setting : Bounds.outside(0, 2)) {
            Bounds.refused("set(" + setting + ", 5)", Checks.INDEX, y -> y.set(setting, 5));
        }
    }

    private static void promise8Undoable() {
        Bounds.hold("Promise 8", "Undoable.");
        TandemClocks x = new TandemClocks();
        x.set(2, 50);
        x.set(2, 50);
        Checks.due("saved also if nothing is changed", x.count(9), 2);
        x.undo();
        Checks.due("50 behind one undo", x.setting(2), 50);
        x.undo();
        Checks.due("8 behind two", x.setting(2), 8);
    }
}
