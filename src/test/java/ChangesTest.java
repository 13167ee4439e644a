/** Promises 1 to 8: a new object, and what changes it. */
public final class ChangesTest {
    private static final int[] BELOW_AND_ABOVE = {-1, Integer.MIN_VALUE, Integer.MAX_VALUE};

    public static void main(String[] args) {
        promise1NewObject();
        promise2PassGoesOn();
        promise2PassStrikes();
        promise2PullsAllAtOnce();
        promise2PullsAreBounded();
        promise2SpringsRunDown();
        promise2Undoable();
        promise2Wrong();
        promise3Kick();
        promise3KickOfOneThatDoesNotGo();
        promise3Wrong();
        promise4Move();
        promise4MoveLeavesOtherPairs();
        promise4Wrong();
        promise5Wind();
        promise5Wrong();
        promise6Speed();
        promise6Wrong();
        promise7Give();
        promise7Wrong();
        promise8Set();
        promise8SetActsAtOnce();
        promise8Wrong();
        Checks.end("ChangesTest");
    }

    private static void promise1NewObject() {
        TandemClocks x = new TandemClocks();
        for (int k = 0; k < 8; k++) {
            int[] wanted = {k % 3, 30 + k, 100 * k, 50, 0};
            for (int what = 0; what < 5; what++) {
                Checks.due("new: clock " + k + " number " + what, x.clock(k, what), wanted[what]);
            }
            int[] later = {0, 0, 0, k, 1 << k};
            for (int what = 6; what <= 10; what++) {
                Checks.due("new: clock " + k + " number " + what, x.clock(k, what), later[what - 6]);
            }
            for (int other = 0; other < 8; other++) {
                if (other != k) {
                    Checks.due("new: pair " + k + " " + other, x.pair(k, other, 1), 0);
                }
            }
        }
        int[] counts = {0, 0, 8, 0, 8, 8, 1, 0, 0, 0};
        for (int what = 0; what < 10; what++) {
            Checks.due("new: count " + what, x.count(what), counts[what]);
        }
        int[] settings = {9, 40, 8};
        int[] masks = {73, 146, 36};
        for (int k = 0; k < 3; k++) {
            Checks.due("new: setting " + k, x.setting(k), settings[k]);
            Checks.due("new: give " + k, x.beam(k, 0), 4);
            Checks.due("new: mask of beam " + k, x.beam(k, 1), masks[k]);
        }
        Checks.due("new: buffer", x.firstError(), 0);
        Checks.due("new: buffer", x.clearBuffer(), 0);
        Checks.dueThrow("new: goBack", x, Checks.STATE, () -> x.goBack());
        Checks.dueThrow("new: undo", x, Checks.STATE, () -> x.undo());
        Checks.due("NONE", TandemClocks.NONE, -1);
    }

    private static void promise2PassGoesOn() {
        TandemClocks x = Checks.withoutPulls();
        Checks.due("pass(8)", x.pass(8), 0);
        for (int k = 0; k < 8; k++) {
            Checks.due("phase of " + k, x.clock(k, 2), 100 * k + 8 * (30 + k));
            Checks.due("way of " + k, x.clock(k, 6), 8 * (30 + k));
        }
        Checks.due("ticks", x.count(0), 8);
        Checks.due("pass(1)", x.pass(1), 1);
        Checks.due("phase of 7", x.clock(7, 2), 33);
        Checks.due("way of 7", x.clock(7, 6), 333);
        Checks.due("ticks", x.count(0), 9);
        Checks.due("pass(200)", x.pass(200) > 40 ? 1 : 0, 1);
        Checks.due("ticks", x.count(0), 209);
    }

    private static void promise2PassStrikes() {
        TandemClocks x = Checks.withoutPulls();
        x.speed(5, 50);
        Checks.due("strikes of pass(9)", x.pass(9), 1);
        Checks.due("phase before 1000", x.clock(5, 2), 950);
        Checks.due("strikes of pass(1)", x.pass(1), 1);
        Checks.due("phase at 1000", x.clock(5, 2), 0);
        Checks.due("spring", x.clock(5, 3), 49);
        Checks.due("strikes", x.clock(5, 4), 1);
        Checks.due("strikes of one that struck in no tick", x.clock(6, 4), 0);
        Checks.due("spring of one that struck in no tick", x.clock(6, 3), 50);
        Checks.due("strikes of all", x.count(1), 2);
        Checks.due("ticks with strikes", x.count(8), 2);
    }

    private static void promise2PullsAllAtOnce() {
        TandemClocks x = new TandemClocks();
        x.set(0, 50);
        x.give(1, 20);
        x.pass(1);
        Checks.due("clock 1, pulled by -10", x.clock(1, 2), 121);
        Checks.due("clock 4, pulled by 0", x.clock(4, 2), 434);
        Checks.due("clock 7, pulled by 10", x.clock(7, 2), 747);
    }

    private static void promise2PullsAreBounded() {
        TandemClocks x = new TandemClocks();
        x.give(1, 20);
        x.pass(1);
        Checks.due("at least 0 less setting 0", x.clock(1, 2), 100 + 31 - 9);
        Checks.due("at most setting 0", x.clock(7, 2), 700 + 37 + 9);
        TandemClocks slow = new TandemClocks();
        slow.set(0, 50);
        slow.give(1, 20);
        slow.speed(1, 10);
        slow.kick(7, -100);
        Checks.due("a pull of 30 and one of -50", slow.clock(1, 5), -20);
        slow.pass(1);
        Checks.due("not by less than 0", slow.clock(1, 2), 100);
        Checks.due("way of 0", slow.clock(1, 6), 0);
    }

    private static void promise2SpringsRunDown() {
        TandemClocks x = Checks.withoutPulls();
        for (int clock = 0; clock < 8; clock++) {
            x.speed(clock, 50);
        }
        for (int times = 0; times < 4; times++) {
            Checks.due("strikes of 200 ticks", x.pass(200), 80);
        }
        x.pass(199);
        Checks.due("spring of 0 before its last strike", x.clock(0, 3), 1);
        Checks.due("clocks that go", x.count(2), 1);
        Checks.due("last strike", x.pass(1), 1);
        Checks.due("spring of 0", x.clock(0, 3), 0);
        Checks.due("clocks that go", x.count(2), 0);
        Checks.due("nothing strikes", x.pass(200), 0);
        Checks.due("phase stays", x.clock(0, 2), 0);
        Checks.due("way stays", x.clock(0, 6), 50000);
        Checks.due("ticks pass all the same", x.count(0), 1200);
        Checks.due("strikes of all", x.count(1), 400);
    }

    private static void promise2Undoable() {
        TandemClocks x = new TandemClocks();
        long before = x.digest();
        x.pass(200);
        Checks.due("one saved state", x.count(9), 1);
        Checks.due("undo", x.undo(), 0);
        Checks.due("as before", x.digest(), before);
    }

    private static void promise2Wrong() {
        TandemClocks x = new TandemClocks();
        for (int ticks : new int[] {0, -1, 201, Integer.MIN_VALUE, Integer.MAX_VALUE}) {
            Checks.dueThrow("pass(" + ticks + ")", x, Checks.ARGUMENT, () -> x.pass(ticks));
        }
    }

    private static void promise3Kick() {
        TandemClocks x = new TandemClocks();
        Checks.due("kick(0, -1)", x.kick(0, -1), 999);
        Checks.due("phase", x.clock(0, 2), 999);
        Checks.due("kick(0, 1)", x.kick(0, 1), 0);
        Checks.due("kick(0, 500)", x.kick(0, 500), 500);
        Checks.due("kick(0, 500)", x.kick(0, 500), 0);
        Checks.due("kick(7, -500)", x.kick(7, -500), 200);
        Checks.due("does not strike", x.count(1), 0);
        Checks.due("spring", x.clock(0, 3), 50);
        Checks.due("way", x.clock(0, 6), 0);
        Checks.due("sum of kicks of 0", x.clock(0, 7), 1000);
        Checks.due("sum of kicks of 7", x.clock(7, 7), -500);
        Checks.due("kicks", x.count(7), 5);
        Checks.due("ticks", x.count(0), 0);
        Checks.due("saved", x.count(9), 5);
        x.undo();
        Checks.due("phase behind undo", x.clock(7, 2), 700);
        Checks.due("kicks behind undo", x.count(7), 4);
        Checks.due("sum behind undo", x.clock(7, 7), 0);
    }

    private static void promise3KickOfOneThatDoesNotGo() {
        TandemClocks x = Checks.runDown();
        int phase = x.clock(3, 2);
        Checks.due("kick of one that does not go", x.kick(3, 7), phase + 7);
        Checks.due("still does not go", x.clock(3, 3), 0);
    }

    private static void promise3Wrong() {
        TandemClocks x = new TandemClocks();
        for (int by : new int[] {0, 501, -501, Integer.MIN_VALUE, Integer.MAX_VALUE}) {
            Checks.dueThrow("kick(2, " + by + ")", x, Checks.ARGUMENT, () -> x.kick(2, by));
            Checks.dueThrow("kick(8, " + by + ")", x, Checks.INDEX, () -> x.kick(8, by));
            Checks.dueThrow("kick(-1, " + by + ")", x, Checks.INDEX, () -> x.kick(-1, by));
        }
        for (int clock : new int[] {-1, 8, Integer.MIN_VALUE, Integer.MAX_VALUE}) {
            Checks.dueThrow("kick(" + clock + ", 1)", x, Checks.INDEX, () -> x.kick(clock, 1));
        }
    }

    private static void promise4Move() {
        TandemClocks x = new TandemClocks();
        Checks.due("move(7, 2)", x.move(7, 2), 2);
        Checks.due("beam", x.clock(7, 0), 2);
        Checks.due("mask of 2", x.beam(2, 1), 164);
        Checks.due("mask of 1", x.beam(1, 1), 18);
        Checks.due("move(7, 0)", x.move(7, 0), 3);
        x.undo();
        Checks.due("beam behind undo", x.clock(7, 0), 2);
        for (int clock : new int[] {2, 5, 7}) {
            x.move(clock, 1);
        }
        Checks.due("move to a beam without clocks", x.move(0, 2), 0);
    }

    private static void promise4MoveLeavesOtherPairs() {
        TandemClocks x = Checks.withoutPulls();
        for (int clock : new int[] {0, 3, 6}) {
            x.speed(clock, 30);
            Checks.putPhase(x, clock, 0);
        }
        x.pass(10);
        Checks.due("near", x.pair(0, 3, 1), 10);
        x.move(3, 1);
        Checks.due("near 0 ticks with 0", x.pair(0, 3, 1), 0);
        Checks.due("near 0 ticks with 6", x.pair(6, 3, 1), 0);
        Checks.due("the others as before", x.pair(0, 6, 1), 10);
        x.move(3, 0);
        Checks.due("back, but near 0 ticks", x.pair(3, 0, 1), 0);
        x.pass(1);
        Checks.due("one tick more", x.pair(3, 0, 1), 1);
        Checks.due("one tick more", x.pair(6, 0, 1), 11);
    }

    private static void promise4Wrong() {
        TandemClocks x = new TandemClocks();
        Checks.dueThrow("move(4, 1)", x, Checks.STATE, () -> x.move(4, 1));
        for (int beam : new int[] {-1, 3, Integer.MIN_VALUE, Integer.MAX_VALUE}) {
            Checks.dueThrow("move(4, " + beam + ")", x, Checks.INDEX, () -> x.move(4, beam));
        }
        for (int clock : new int[] {-1, 8, Integer.MIN_VALUE, Integer.MAX_VALUE}) {
            Checks.dueThrow("move(" + clock + ", 1)", x, Checks.INDEX, () -> x.move(clock, 1));
        }
    }

    private static void promise5Wind() {
        TandemClocks x = Checks.withoutPulls();
        Checks.due("wind(6)", x.wind(6), 49);
        Checks.due("spring", x.clock(6, 3), 99);
        Checks.due("wind(6) again", x.wind(6), 0);
        Checks.due("saved also if nothing is changed", x.count(9), 5);
        x.undo();
        x.undo();
        Checks.due("spring behind undo", x.clock(6, 3), 50);
        TandemClocks down = Checks.runDown();
        Checks.due("wind of one that does not go", down.wind(2), 99);
        Checks.due("one goes", down.count(2), 1);
    }

    private static void promise5Wrong() {
        TandemClocks x = new TandemClocks();
        for (int clock : new int[] {-1, 8, Integer.MIN_VALUE, Integer.MAX_VALUE}) {
            Checks.dueThrow("wind(" + clock + ")", x, Checks.INDEX, () -> x.wind(clock));
        }
    }

    private static void promise6Speed() {
        TandemClocks x = Checks.withoutPulls();
        Checks.due("speed(5, 60)", x.speed(5, 60), 35);
        Checks.due("speed(5, 10)", x.speed(5, 10), 60);
        Checks.due("its speed", x.clock(5, 1), 10);
        x.pass(1);
        Checks.due("goes on by it", x.clock(5, 2), 510);
        x.undo();
        x.undo();
        Checks.due("speed behind undo", x.clock(5, 1), 60);
    }

    private static void promise6Wrong() {
        TandemClocks x = new TandemClocks();
        for (int speed : new int[] {9, 61, 0, -30, Integer.MIN_VALUE, Integer.MAX_VALUE}) {
            Checks.dueThrow("speed(0, " + speed + ")", x, Checks.ARGUMENT, () -> x.speed(0, speed));
            Checks.dueThrow("speed(8, " + speed + ")", x, Checks.INDEX, () -> x.speed(8, speed));
        }
        for (int clock : BELOW_AND_ABOVE) {
            Checks.dueThrow("speed(" + clock + ", 30)", x, Checks.INDEX, () -> x.speed(clock, 30));
        }
    }

    private static void promise7Give() {
        TandemClocks x = new TandemClocks();
        Checks.due("give(2, 20)", x.give(2, 20), 4);
        Checks.due("give(2, 0)", x.give(2, 0), 20);
        Checks.due("its give", x.beam(2, 0), 0);
        Checks.due("no pull", x.clock(2, 5), 0);
        x.undo();
        Checks.due("give behind undo", x.beam(2, 0), 20);
        Checks.due("a pull", x.clock(2, 5), 9);
        Checks.due("the others", x.beam(0, 0) + x.beam(1, 0), 8);
    }

    private static void promise7Wrong() {
        TandemClocks x = new TandemClocks();
        for (int give : new int[] {-1, 21, Integer.MIN_VALUE, Integer.MAX_VALUE}) {
            Checks.dueThrow("give(1, " + give + ")", x, Checks.ARGUMENT, () -> x.give(1, give));
            Checks.dueThrow("give(3, " + give + ")", x, Checks.INDEX, () -> x.give(3, give));
        }
        for (int beam : BELOW_AND_ABOVE) {
            Checks.dueThrow("give(" + beam + ", 4)", x, Checks.INDEX, () -> x.give(beam, 4));
        }
    }

    private static void promise8Set() {
        TandemClocks x = new TandemClocks();
        int[] least = {0, 0, 1};
        int[] most = {50, 200, 50};
        int[] before = {9, 40, 8};
        for (int setting = 0; setting < 3; setting++) {
            Checks.due("set to the least", x.set(setting, least[setting]), before[setting]);
            Checks.due("set to the most", x.set(setting, most[setting]), least[setting]);
            Checks.due("setting", x.setting(setting), most[setting]);
        }
        Checks.due("undo", x.undo(), 5);
        Checks.due("setting behind undo", x.setting(2), 1);
    }

    private static void promise8SetActsAtOnce() {
        TandemClocks x = Checks.withoutPulls();
        x.speed(3, 30);
        Checks.putPhase(x, 3, 40);
        x.pass(3);
        Checks.due("near at the widest gap", x.pair(0, 3, 1), 3);
        Checks.due("not near long enough", x.pair(0, 3, 2), 4);
        x.set(1, 39);
        Checks.due("not near now", x.pair(0, 3, 2), 3);
        x.set(2, 3);
        Checks.due("locked by the ticks that were", x.pair(0, 3, 2), 0);
        x.set(2, 4);
        Checks.due("not locked any more", x.pair(0, 3, 2), 3);
        Checks.due("ticks near stay until the next tick", x.pair(0, 3, 1), 3);
        x.pass(1);
        Checks.due("ticks near behind it", x.pair(0, 3, 1), 0);
    }

    private static void promise8Wrong() {
        TandemClocks x = new TandemClocks();
        int[][] wrong = {{-1, 51}, {-1, 201}, {0, 51}};
        for (int setting = 0; setting < 3; setting++) {
            int index = setting;
            for (int value : wrong[setting]) {
                Checks.dueThrow("set(" + index + ", " + value + ")", x, Checks.ARGUMENT, () -> x.set(index, value));
            }
            Checks.dueThrow("set below", x, Checks.ARGUMENT, () -> x.set(index, Integer.MIN_VALUE));
            Checks.dueThrow("set above", x, Checks.ARGUMENT, () -> x.set(index, Integer.MAX_VALUE));
        }
        for (int setting : new int[] {-1, 3, Integer.MIN_VALUE, Integer.MAX_VALUE}) {
            Checks.dueThrow("set(" + setting + ", 5)", x, Checks.INDEX, () -> x.set(setting, 5));
            Checks.dueThrow("set(" + setting + ", -5)", x, Checks.INDEX, () -> x.set(setting, -5));
        }
    }
}
