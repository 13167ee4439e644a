/** Promises 9 to 15: texts, the snapshot, undo. */
public final class TextTest {
    private static final String FULL = "t99;t99;t99;t99;t99;t99;t99;t99;t99;t99;t99;t99;t99;t99;k0+5";

    public static void main(String[] args) {
        promise9Append();
        promise9Wrong();
        promise10ClearBuffer();
        promise11FirstError();
        promise11EachCharacter();
        promise12Obey();
        promise12ObeyUpToOneThatThrows();
        promise12ObeyOfNone();
        promise12ObeyOfAFullBuffer();
        promise12Wrong();
        promise13Keep();
        promise14GoBack();
        promise15Undo();
        promise15UndoLeavesBufferAndSnapshot();
        Checks.end("TextTest");
    }

    private static void promise9Append() {
        TandemClocks x = new TandemClocks();
        for (int length = 1; length <= 60; length++) {
            Checks.due("append", x.append(length % 2 == 0 ? 33 : 126), length);
        }
        Checks.dueThrow("append to a full buffer", x, Checks.STATE, () -> x.append(33));
        Checks.dueThrow("append of a wrong code to it", x, Checks.ARGUMENT, () -> x.append(32));
        Checks.due("not undoable", x.count(9), 0);
        Checks.due("length", x.clearBuffer(), 60);
    }

    private static void promise9Wrong() {
        TandemClocks x = new TandemClocks();
        for (int code : new int[] {32, 127, 0, -1, 256 + 'k', Integer.MIN_VALUE, Integer.MAX_VALUE}) {
            Checks.dueThrow("append(" + code + ")", x, Checks.ARGUMENT, () -> x.append(code));
        }
    }

    private static void promise10ClearBuffer() {
        TandemClocks x = new TandemClocks();
        Checks.due("clearBuffer of an empty one", x.clearBuffer(), 0);
        Checks.write(x, "k0+5");
        Checks.due("clearBuffer", x.clearBuffer(), 4);
        Checks.due("clearBuffer again", x.clearBuffer(), 0);
        Checks.due("length behind it", x.append('t'), 1);
        Checks.due("not undoable", x.count(9), 0);
    }

    private static void dueError(String orders, int error, boolean complete) {
        TandemClocks x = new TandemClocks();
        Checks.write(x, orders);
        long before = x.digest();
        Checks.due("firstError of " + orders, x.firstError(), error);
        Checks.due("digest behind firstError", x.digest(), before);
        if (complete) {
            x.obey();
        } else {
            Checks.dueThrow("obey of " + orders, x, Checks.ARGUMENT, () -> x.obey());
        }
    }

    private static void promise11FirstError() {
        String[] complete = {
            "k0+5", "k7-500", "k0+1", "k3-51", "k3+50", "k3+499", "k3+99", "k3-100", "b32", "b00", "w0", "w7", "t1",
            "t99", "t10", "t9;t9", "k0+300;b31;w5;t9", "k5+500;k5-500", FULL, "b01;b01", "w1;k1+9;b11"};
        for (String orders : complete) {
            dueError(orders, orders.length(), true);
        }
        String[] begun = {"", "k", "k0", "k0+", "b", "b3", "w", "t", "t9;", "k0+5;", "w0;b", "b31;", "w0;k7-"};
        for (String orders : begun) {
            dueError(orders, orders.length(), false);
        }
        String[] wrong = {
            "|;", "k|8", "k|+", "k|:", "k|/", "k0|*", "k0|5", "k0|,", "k0+|0", "k0+|05", "k0+|;", "k0+|+", "k0+50|1",
            "k0+51|0", "k0+60|0", "k0-99|9", "k0-500|0", "k0+100|0", "k0+5|+", "k0+5|:", "k0+5|/", "b|8", "b3|3",
            "b3|;", "b3|:", "b3|/", "b31|1", "b31|t", "w|8", "w7|7", "w|;", "w7|w", "t|0", "t|01", "t|;", "t|:", "t|/",
            "t99|9", "t10|0", "t9|k", "t9|/", "t9;|;", "t9;|9", "|K", "|T", "|0", "|a", "|x", "t9;|+", "w0|,w0", "|:k"};
        for (String marked : wrong) {
            int error = marked.indexOf('|');
            dueError(marked.substring(0, error) + marked.substring(error + 1), error, false);
        }
    }

    /** At each place of orders, each character that may stand there and no other is taken. */
    private static void promise11EachCharacter() {
        String[] begun = {"", "k", "k4", "k4-", "k4-5", "k4-50", "k4-6", "k4-500", "b", "b4", "b41", "w", "w4", "t", "t9", "t99", "t9;"};
        String[] taken = {
            "kbwt", "01234567", "+-", "123456789", "0123456789;", "0;", "0123456789;", ";", "01234567", "012", ";",
            "01234567", ";", "123456789", "0123456789;", ";", "kbwt"};
        for (int place = 0; place < begun.length; place++) {
            String before = begun[place];
            for (int code = 33; code <= 126; code++) {
                TandemClocks x = Bounds.written(before);
                x.append(code);
                boolean wanted = place == 6 ? code == ';' || code >= '0' && code <= '9' : taken[place].indexOf(code) >= 0;
                int error = before.length() + (wanted ? 1 : 0);
                Checks.due("firstError of " + before + (char) code, x.firstError(), error);
            }
        }
    }

    private static void promise12Obey() {
        TandemClocks x = Checks.withoutPulls();
        long before = x.digest();
        Checks.write(x, "k0+300;k1-30;b31;w5;t9;k2-499");
        Checks.due("obey", x.obey(), 6);
        Checks.due("buffer", x.clearBuffer(), 0);
        Checks.due("kick of 0", x.clock(0, 7), 300);
        Checks.due("kick of 1", x.clock(1, 7), -30);
        Checks.due("phase of 0", x.clock(0, 2), 300 + 9 * 30);
        Checks.due("phase of 1", x.clock(1, 2), 70 + 9 * 31);
        Checks.due("phase of 2", x.clock(2, 2), 1000 + 200 + 9 * 32 - 499);
        Checks.due("kicks", x.count(7), 3);
        Checks.due("beam of 3", x.clock(3, 0), 1);
        Checks.due("spring of 5", x.clock(5, 3), 99);
        Checks.due("ticks", x.count(0), 9);
        Checks.due("strikes", x.count(1), 1);
        Checks.due("one saved state more", x.count(9), 4);
        Checks.due("undo", x.undo(), 3);
        Checks.due("as before, and the buffer stays clear", x.digest(), before);
    }

    private static void promise12ObeyUpToOneThatThrows() {
        TandemClocks x = new TandemClocks();
        Checks.write(x, "b31;t9;b31;t9");
        Checks.due("obey", x.obey(), 2);
        Checks.due("ticks", x.count(0), 9);
        Checks.due("buffer", x.clearBuffer(), 0);
    }

    private static void promise12ObeyOfNone() {
        TandemClocks x = new TandemClocks();
        Checks.write(x, "b00;w0");
        Checks.due("obey", x.obey(), 0);
        Checks.due("saved also if none is done", x.count(9), 1);
        Checks.due("spring", x.clock(0, 3), 50);
        Checks.due("undo", x.undo(), 0);
    }

    private static void promise12ObeyOfAFullBuffer() {
        TandemClocks x = new TandemClocks();
        Checks.write(x, FULL);
        Checks.due("full", FULL.length(), 60);
        Checks.due("obey", x.obey(), 15);
        Checks.due("ticks", x.count(0), 14 * 99);
        Checks.due("kicks", x.count(7), 1);
    }

    private static void promise12Wrong() {
        TandemClocks x = new TandemClocks();
        Checks.dueThrow("obey of nothing", x, Checks.ARGUMENT, () -> x.obey());
        Checks.write(x, "t9;");
        Checks.dueThrow("obey of what is not complete", x, Checks.ARGUMENT, () -> x.obey());
        Checks.due("buffer as before", x.append('w'), 4);
        x.append('8');
        Checks.dueThrow("obey of what has an error", x, Checks.ARGUMENT, () -> x.obey());
        Checks.due("nothing done", x.count(0), 0);
        Checks.due("nothing saved", x.count(9), 0);
    }

    private static void promise13Keep() {
        TandemClocks x = new TandemClocks();
        Checks.due("keep", x.keep(), 0);
        x.pass(7);
        Checks.due("keep", x.keep(), 7);
        Checks.due("not undoable", x.count(9), 1);
        x.pass(3);
        Checks.due("in place of the one that was", x.goBack(), 7);
    }

    private static TandemClocks changed() {
        TandemClocks x = new TandemClocks();
        x.move(0, 1);
        x.give(1, 7);
        x.set(1, 77);
        x.speed(4, 11);
        x.wind(6);
        x.pass(20);
        x.kick(2, 5);
        x.keep();
        return x;
    }

    private static void promise14GoBack() {
        int[] all = tellAll(changed());
        TandemClocks x = changed();
        x.move(0, 2);
        x.give(1, 8);
        x.set(1, 78);
        x.speed(4, 12);
        x.kick(2, 6);
        x.pass(50);
        Checks.due("goBack", x.goBack(), 20);
        dueAll("goBack", tellAll(x), all);
        Checks.due("saved", x.count(9), 6);
        x.pass(2);
        Checks.due("the snapshot stays", x.goBack(), 20);
        dueAll("goBack again", tellAll(x), all);
        Checks.due("undo of goBack", x.undo(), 5);
        Checks.due("ticks behind it", x.count(0), 22);
        x.undo();
        x.undo();
        Checks.due("ticks before the first goBack", x.count(0), 70);
        Checks.due("kicks before it", x.clock(2, 7), 11);
    }

    private static int[] tellAll(TandemClocks x) {
        int[] all = new int[8 * 11 + 8 * 8 + 3 * 5 + 3 + 9];
        int at = 0;
        for (int clock = 0; clock < 8; clock++) {
            for (int what = 0; what <= 10; what++) {
                all[at++] = x.clock(clock, what);
            }
            for (int other = 0; other < 8; other++) {
                all[at++] = other == clock ? 0 : x.pair(clock, other, 1);
            }
        }
        for (int k = 0; k < 3; k++) {
            for (int what = 0; what <= 4; what++) {
                all[at++] = x.beam(k, what);
            }
            all[at++] = x.setting(k);
        }
        for (int what = 0; what <= 8; what++) {
            all[at++] = x.count(what);
        }
        return all;
    }

    private static void dueAll(String what, int[] got, int[] want) {
        for (int at = 0; at < want.length; at++) {
            Checks.due(what + ", number " + at, got[at], want[at]);
        }
    }

    private static TandemClocks passed(int deeds) {
        TandemClocks x = new TandemClocks();
        for (int deed = 0; deed < deeds; deed++) {
            x.pass(deed + 30);
            Checks.due("saved", x.count(9), Math.min(deed + 1, 6));
        }
        return x;
    }

    private static void promise15Undo() {
        for (int undone = 1; undone <= 6; undone++) {
            TandemClocks x = passed(8);
            for (int times = 1; times <= undone; times++) {
                Checks.due("undo", x.undo(), 6 - times);
            }
            dueAll("undo of " + undone, tellAll(x), tellAll(passed(8 - undone)));
        }
        TandemClocks x = new TandemClocks();
        Checks.dueThrow("undo without saved states", x, Checks.STATE, () -> x.undo());
        x.pass(1);
        x.pass(1);
        x.undo();
        x.kick(0, 9);
        Checks.due("undo of what came behind an undo", x.undo(), 1);
        Checks.due("kicks", x.count(7), 0);
        Checks.due("undo", x.undo(), 0);
        dueAll("undo of all", tellAll(x), tellAll(new TandemClocks()));
    }

    private static void promise15UndoLeavesBufferAndSnapshot() {
        TandemClocks x = new TandemClocks();
        x.pass(3);
        x.keep();
        Checks.write(x, "w1");
        x.pass(4);
        x.undo();
        x.undo();
        Checks.due("ticks", x.count(0), 0);
        Checks.due("the buffer is as it was", x.clearBuffer(), 2);
        Checks.due("the snapshot is as it was", x.goBack(), 3);
    }
}
