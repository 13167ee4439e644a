/** Each sentence of promises 9 to 15 that names a boundary case. */
public final class TextBoundsTest {
    public static void main(String[] args) {
        promise9Code();
        promise9NewLength();
        promise9FullBuffer();
        promise9NotUndoable();
        promise10LengthThatItHad();
        promise10ClearsTheBufferAlone();
        promise11IndexOfTheFirst();
        promise11LengthIfNone();
        promise11ChangesNothing();
        promise12OneAfterTheOther();
        promise12AsTheCallsDo();
        promise12MovesAsMoveDoes();
        promise12UpToTheFirstThatThrows();
        promise12ClearsTheBuffer();
        promise12AsOneCall();
        promise12AlsoIfNoneIsDone();
        promise12NotComplete();
        promise13AllThatUndoRestores();
        promise13InPlaceOfTheOneThatWas();
        promise13TicksSoFar();
        promise13NotUndoable();
        promise14Stays();
        promise14Undoable();
        promise14TicksSoFarThen();
        promise14NoSnapshot();
        promise15LatestAndDropsIt();
        promise15HowManyAreLeft();
        promise15None();
        Bounds.end("TextBoundsTest", 9, 15);
    }

    // ---- promise 9

    private static void promise9Code() {
        Bounds.hold("Promise 9", "- `code`: the character code, 33 to 126");
        TandemClocks x = new TandemClocks();
        Checks.due("the least is taken", x.append(33), 1);
        Checks.due("the most is taken", x.append(126), 2);
        Bounds.hold("Promise 9", "Throws `IllegalArgumentException` if code is not 33 to 126");
        for (int code : Bounds.outside(33, 126)) {
            Bounds.refused("append(" + code + ")", Checks.ARGUMENT, y -> y.append(code));
        }
        for (int code : new int[] {0, -1, 10, 128, 256 + 't', 65536 + 't', -65536 + 't'}) {
            Bounds.refused("append(" + code + ")", Checks.ARGUMENT, y -> y.append(code));
        }
    }

    private static void promise9NewLength() {
        Bounds.hold("Promise 9", "Returns the new length of the buffer.");
        TandemClocks x = new TandemClocks();
        for (int length = 1; length <= 60; length++) {
            Checks.due("length", x.append(33 + length), length);
        }
        Checks.due("length that it had", x.clearBuffer(), 60);
        Checks.due("from 1 again", x.append(126), 1);
    }

    private static void promise9FullBuffer() {
        Bounds.hold("Promise 9", "Throws `IllegalStateException` if the buffer has 60 characters");
        TandemClocks nearly = Bounds.written(Bounds.FULL.substring(0, 59));
        Checks.due("59 characters", nearly.append('9'), 60);
        for (int code : new int[] {33, '5', 126}) {
            Bounds.refusedBy(() -> Bounds.written(Bounds.FULL), "append(" + code + ")", Checks.STATE, x -> x.append(code));
        }
        TandemClocks full = Bounds.written(Bounds.FULL);
        full.obey();
        Checks.due("behind obey it is not full", full.append('w'), 1);
    }

    private static void promise9NotUndoable() {
        Bounds.hold("Promise 9", "Appends a character to the buffer.");
        TandemClocks x = Bounds.written(Bounds.FULL);
        Checks.due("saved states", x.count(9), 0);
        Checks.due("its last character", x.firstError(), 60);
        Checks.due("all of them", x.obey(), 15);
    }

    // ---- promise 10

    private static void promise10LengthThatItHad() {
        Bounds.hold("Promise 10", "Returns the length that it had.");
        for (int length : new int[] {0, 1, 59, 60}) {
            TandemClocks x = Bounds.written(Bounds.FULL.substring(0, length));
            Checks.due("clearBuffer", x.clearBuffer(), length);
            Checks.due("clearBuffer again", x.clearBuffer(), 0);
        }
    }

    private static void promise10ClearsTheBufferAlone() {
        Bounds.hold("Promise 10", "Clears the buffer.");
        TandemClocks x = Bounds.rich();
        TandemClocks same = Bounds.rich();
        x.clearBuffer();
        Checks.due("saved states", x.count(9), 6);
        Checks.due("firstError", x.firstError(), 0);
        Checks.write(x, "k3+5;t");
        Checks.dueText("with the same text again", Bounds.told(x), Bounds.told(same));
        TandemClocks stale = Bounds.written("t99;t99");
        stale.clearBuffer();
        Checks.write(stale, "w7");
        Checks.due("nothing is left of the old text", stale.obey(), 1);
        Checks.due("no tick passed", stale.count(0), 0);
    }

    // ---- promise 11

    private static void promise11IndexOfTheFirst() {
        Bounds.hold("Promise 11", "Returns the index of the first character that is a syntax error");
        Checks.due("the first character", Bounds.written("x").firstError(), 0);
        Checks.due("the first of many", Bounds.written("5t99;x;y;z").firstError(), 0);
        Checks.due("the second", Bounds.written("t0").firstError(), 1);
        Checks.due("the last of 60", Bounds.written(Bounds.FULL.substring(0, 59) + "x").firstError(), 59);
        Checks.due("the last but one of 60", Bounds.written(Bounds.FULL.substring(0, 58) + "x5").firstError(), 58);
        Checks.due("the first of 60", Bounds.written("x" + Bounds.FULL.substring(1)).firstError(), 0);
    }

    private static void promise11LengthIfNone() {
        Bounds.hold("Promise 11", "the length of the buffer if there is none.");
        for (int length = 0; length <= 60; length++) {
            Checks.due("begin of " + length, Bounds.written(Bounds.FULL.substring(0, length)).firstError(), length);
        }
    }

    private static void promise11ChangesNothing() {
        Bounds.hold("Promise 11", "Finds the first syntax error of the buffer.");
        for (String text : new String[] {"", "x", "k0+5", "k0+", Bounds.FULL}) {
            TandemClocks x = Bounds.written(text);
            int error = x.firstError();
            Checks.due("asked again", x.firstError(), error);
            Checks.dueText("behind firstError", Bounds.told(x), Bounds.told(Bounds.written(text)));
        }
    }

    // ---- promise 12

    private static TandemClocks obeyed(String orders, int done) {
        TandemClocks x = Bounds.written(orders);
        Checks.due("obey of " + orders, x.obey(), done);
        return x;
    }

    private static void promise12OneAfterTheOther() {
        Bounds.hold("Promise 12", "one after the other");
        TandemClocks first = obeyed("b01;b00;b02", 3);
        Checks.due("the last one stands", first.clock(0, 0), 2);
        Checks.due("moved, then not to its own", obeyed("b01;b01", 1).clock(0, 0), 1);
        Checks.due("a kick, then ticks", obeyed("k0+499;k0+499;k0-1;t1", 4).count(1), 1);
        Checks.due("ticks, then a kick", obeyed("t1;k0+499;k0+499;k0-1", 4).count(1), 0);
        Checks.due("one order", obeyed("w0", 1).clock(0, 3), 99);
    }

    private static void promise12AsTheCallsDo() {
        Bounds.hold("Promise 12", "Does the orders in the buffer as kick(), move(), wind() and pass() do");
        TandemClocks by = new TandemClocks();
        by.kick(0, -500);
        by.kick(7, 500);
        by.kick(0, 1);
        by.move(7, 0);
        by.move(0, 2);
        by.wind(0);
        by.wind(0);
        by.wind(7);
        by.pass(99);
        by.pass(1);
        TandemClocks x = obeyed("k0-500;k7+500;k0+1;b70;b02;w0;w0;w7;t99;t1", 10);
        for (int clock = 0; clock < 8; clock++) {
            for (int what = 0; what <= 10; what++) {
                Checks.due("number " + what + " of " + clock, x.clock(clock, what), by.clock(clock, what));
            }
        }
        for (int what = 0; what <= 8; what++) {
            Checks.due("count " + what, x.count(what), by.count(what));
        }
        Checks.due("one saved state", x.count(9), 1);
    }

    private static void promise12MovesAsMoveDoes() {
        Bounds.hold("Promise 12", "Does the orders in the buffer as kick(), move(), wind() and pass() do");
        TandemClocks x = Bounds.inOneRow(0);
        x.pass(9);
        Checks.write(x, "b72;b70;b31;w0;k0+1");
        Checks.due("obey", x.obey(), 5);
        Checks.due("near for 0 ticks, moved and moved back", x.pair(0, 7, 1), 0);
        Checks.due("near for 0 ticks, moved", x.pair(3, 0, 1), 0);
        Checks.due("near as before, wound and kicked", x.pair(0, 6, 1), 9);
        x.undo();
        Checks.due("near as before, undone", x.pair(0, 7, 1), 9);
    }

    private static void promise12UpToTheFirstThatThrows() {
        Bounds.hold("Promise 12", "up to the first one that would throw an exception");
        Checks.due("the first one", obeyed("b00;w0;t9", 0).clock(0, 3), 50);
        Checks.due("the one between", obeyed("t9;b00;t9", 1).count(0), 9);
        Checks.due("the last one", obeyed("t9;w0;b00", 2).clock(0, 3), 99);
        Checks.due("none", obeyed("t9;w0;b01", 3).clock(0, 0), 1);
        Checks.due("the first of two", obeyed("t1;b00;t1;b11;t1", 1).count(0), 1);
        Checks.due("the only one", obeyed("b72;b72", 1).clock(7, 0), 2);
        String last = "t99;t99;t99;t99;t99;t99;t99;t99;t99;t99;t99;t99;t99;t99;b11";
        Checks.due("the last of many", obeyed(last, 14).count(0), 14 * 99);
    }

    private static void promise12ClearsTheBuffer() {
        Bounds.hold("Promise 12", "and clears the buffer.");
        for (String orders : new String[] {"w0", "b00", "t9;b00;t9", Bounds.FULL}) {
            TandemClocks x = Bounds.written(orders);
            x.obey();
            Checks.due("length behind obey of " + orders, x.clearBuffer(), 0);
            Checks.due("append", x.append('w'), 1);
        }
        TandemClocks twice = obeyed("w0", 1);
        Checks.dueThrow("obey again", twice, Checks.ARGUMENT, () -> twice.obey());
    }

    private static void promise12AsOneCall() {
        Bounds.hold("Promise 12", "Undoable, as one call, also if none is done.");
        for (String orders : new String[] {"w0", "k0+5;w1;b02;t9", Bounds.FULL}) {
            TandemClocks x = Bounds.rich();
            x.clearBuffer();
            TandemClocks same = Bounds.rich();
            same.clearBuffer();
            Checks.write(x, orders);
            x.obey();
            Checks.due("saved states, at most 6", x.count(9), 6);
            Checks.due("undo", x.undo(), 5);
            same.wind(0);
            same.undo();
            Checks.dueText("one state was dropped, and undo left", Bounds.told(x), Bounds.told(same));
        }
    }

    private static void promise12AlsoIfNoneIsDone() {
        Bounds.hold("Promise 12", "also if none is done.");
        TandemClocks x = obeyed("b00;t99", 0);
        Checks.due("saved states", x.count(9), 1);
        Checks.due("ticks", x.count(0), 0);
        Checks.due("undo", x.undo(), 0);
        Checks.dueText("behind undo", Bounds.told(x), Bounds.told(new TandemClocks()));
        TandemClocks rich = Bounds.rich();
        rich.clearBuffer();
        Checks.write(rich, "b31");
        Checks.due("obey", rich.obey(), 0);
        Checks.due("saved states, at most 6", rich.count(9), 6);
    }

    private static void promise12NotComplete() {
        Bounds.hold("Promise 12", "Throws `IllegalArgumentException` if the buffer is not complete orders as a text");
        String[] wrong = {
            "", "k", "k0", "k0+", "b", "b0", "w", "t", ";", "w0;", "w0;k", "t9;t", "x", "w0x", "t0", "t100", "k0+501", "k0+0",
            "w8", "b03", "b80", "k8+1", "w0;;w1", "t9;w0;x", Bounds.FULL.substring(0, 59) + ";"};
        for (String text : wrong) {
            Bounds.refusedBy(() -> Bounds.written(text), "obey of " + text, Checks.ARGUMENT, x -> x.obey());
        }
        Bounds.refused("obey", Checks.ARGUMENT, x -> x.obey());
    }

    // ---- promise 13

    private static void promise13AllThatUndoRestores() {
        Bounds.hold("Promise 13", "Takes a snapshot of the state (of all that undo() would restore)");
        TandemClocks x = Bounds.sideBySide(0);
        x.pass(9);
        x.keep();
        Checks.write(x, "w1;w2");
        x.kick(0, 300);
        x.wind(0);
        x.speed(0, 60);
        x.give(0, 20);
        x.set(1, 0);
        x.pass(40);
        Checks.due("goBack", x.goBack(), 9);
        TandemClocks same = Bounds.sideBySide(0);
        same.pass(9);
        for (int what = 0; what <= 8; what++) {
            Checks.due("count " + what, x.count(what), same.count(what));
        }
        for (int clock = 0; clock < 8; clock++) {
            for (int what = 0; what <= 10; what++) {
                Checks.due("number " + what + " of " + clock, x.clock(clock, what), same.clock(clock, what));
            }
        }
        Checks.due("ticks near", x.pair(0, 3, 1), 9);
        Checks.due("give", x.beam(0, 0), 0);
        Checks.due("setting", x.setting(1), 40);
        Checks.due("the buffer is not in it", x.clearBuffer(), 5);
        Checks.due("saved states are not in it", x.count(9), 6);
    }

    private static void promise13InPlaceOfTheOneThatWas() {
        Bounds.hold("Promise 13", "in place of the one that was.");
        TandemClocks x = new TandemClocks();
        x.keep();
        x.pass(5);
        x.keep();
        x.pass(5);
        Checks.due("the second one", x.goBack(), 5);
        x.undo();
        x.undo();
        Checks.due("ticks", x.count(0), 5);
        x.undo();
        Checks.due("keep at 0 ticks", x.keep(), 0);
        Checks.due("the third one", x.goBack(), 0);
    }

    private static void promise13TicksSoFar() {
        Bounds.hold("Promise 13", "Returns how many ticks passed so far.");
        TandemClocks x = new TandemClocks();
        Checks.due("none", x.keep(), 0);
        x.pass(200);
        Checks.due("200", x.keep(), 200);
        x.pass(1);
        Checks.due("201", x.keep(), 201);
        x.undo();
        Checks.due("200 again", x.keep(), 200);
    }

    private static void promise13NotUndoable() {
        Bounds.hold("Promise 13", "Takes a snapshot of the state");
        TandemClocks x = Bounds.rich();
        x.keep();
        Checks.due("saved states", x.count(9), 6);
        x.undo();
        Checks.due("undo takes back the kick", x.count(7), 1);
        x.goBack();
        Checks.due("and leaves the snapshot", x.count(7), 2);
    }

    // ---- promise 14

    private static void promise14Stays() {
        Bounds.hold("Promise 14", "Goes back to the snapshot, which stays.");
        TandemClocks x = Bounds.sideBySide(0);
        x.pass(9);
        x.keep();
        for (int times = 1; times <= 8; times++) {
            x.pass(times);
            x.kick(0, 100);
            x.set(2, times);
            Checks.due("goBack", x.goBack(), 9);
            Checks.due("kicks", x.clock(0, 7), 0);
            Checks.due("setting", x.setting(2), 8);
            Checks.due("ticks near", x.pair(0, 3, 1), 9);
        }
        Checks.due("goBack from the snapshot", x.goBack(), 9);
    }

    private static void promise14Undoable() {
        Bounds.hold("Promise 14", "Undoable.");
        TandemClocks x = new TandemClocks();
        x.pass(3);
        x.keep();
        Checks.due("goBack that changes nothing", x.goBack(), 3);
        Checks.due("saved states", x.count(9), 2);
        x.pass(4);
        x.goBack();
        Checks.due("saved states", x.count(9), 4);
        Checks.due("undo", x.undo(), 3);
        Checks.due("ticks", x.count(0), 7);
        for (int times = 0; times < 9; times++) {
            x.goBack();
        }
        Checks.due("at most 6", x.count(9), 6);
        Checks.due("undo", x.undo(), 5);
    }

    private static void promise14TicksSoFarThen() {
        Bounds.hold("Promise 14", "Returns how many ticks passed so far then.");
        TandemClocks x = new TandemClocks();
        x.keep();
        x.pass(200);
        Checks.due("none", x.goBack(), 0);
        Checks.due("count", x.count(0), 0);
        x.undo();
        x.keep();
        x.undo();
        Checks.due("more than now", x.goBack(), 200);
        Checks.due("count", x.count(0), 200);
    }

    private static void promise14NoSnapshot() {
        Bounds.hold("Promise 14", "Throws `IllegalStateException` if there is no snapshot");
        Bounds.refusedBy(TandemClocks::new, "goBack", Checks.STATE, x -> x.goBack());
        Bounds.refusedBy(() -> Bounds.sideBySide(0), "goBack", Checks.STATE, x -> x.goBack());
    }

    // ---- promise 15

    private static void promise15LatestAndDropsIt() {
        Bounds.hold("Promise 15", "Restores the latest saved state, and drops it.");
        TandemClocks x = Bounds.sideBySide(0);
        x.pass(8);
        x.pass(1);
        x.undo();
        Checks.due("the latest one", x.count(0), 8);
        Checks.due("ticks near", x.pair(0, 3, 1), 8);
        x.undo();
        Checks.due("the one before it", x.count(0), 0);
        Checks.due("ticks near", x.pair(0, 3, 1), 0);
        x.pass(2);
        x.undo();
        Checks.due("the latest one again", x.count(0), 0);
    }

    private static void promise15HowManyAreLeft() {
        Bounds.hold("Promise 15", "Returns how many saved states are left.");
        TandemClocks x = Bounds.rich();
        for (int left = 5; left >= 0; left--) {
            Checks.due("left", x.undo(), left);
            Checks.due("count", x.count(9), left);
        }
        TandemClocks one = new TandemClocks();
        one.wind(0);
        Checks.due("the only one", one.undo(), 0);
    }

    private static void promise15None() {
        Bounds.hold("Promise 15", "Throws `IllegalStateException` if there is none");
        Bounds.refusedBy(TandemClocks::new, "undo", Checks.STATE, x -> x.undo());
        Bounds.refusedBy(TextBoundsTest::allUndone, "undo", Checks.STATE, x -> x.undo());
        Bounds.refusedBy(() -> Bounds.written("w0"), "undo", Checks.STATE, x -> x.undo());
        Bounds.refusedBy(TextBoundsTest::onlyKept, "undo", Checks.STATE, x -> x.undo());
    }

    private static TandemClocks allUndone() {
        TandemClocks x = Bounds.rich();
        for (int times = 0; times < 6; times++) {
            x.undo();
        }
        return x;
    }

    private static TandemClocks onlyKept() {
        TandemClocks x = new TandemClocks();
        x.keep();
        return x;
    }
}
