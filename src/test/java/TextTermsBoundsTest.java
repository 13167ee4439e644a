/** Each sentence of "Terms" on the input text, undo and exceptions that names a boundary case. */
public final class TextTermsBoundsTest {
    private static final String TERMS = "Terms";
    private static final String NEARLY_FULL = "t99;t99;t99;t99;t99;t99;t99;t99;t99;t99;t99;t99;t99;t99;";

    public static void main(String[] args) {
        atMost60Characters();
        oneOrMoreParts();
        clocksOfKicks();
        signsOfKicks();
        sizesOfKicks();
        clocksThatAreMoved();
        beamsTheyAreMovedTo();
        clocksThatAreWound();
        ticksThatPass();
        noLeadingZeros();
        readFromLeftToRight();
        ofAnyLength();
        savedAlsoIfNothingIsChanged();
        savedWhatIsCounted();
        savedButTheBufferAndTheSnapshot();
        atMost6StatesAreSaved();
        theOldestIsDroppedFirst();
        refusedCallsSaveNothing();
        refusedCallsChangeNothing();
        theFirstNamedIsThrown();
        Checks.end("TextTermsBoundsTest");
    }

    /** The sign marked by "|" ahead of it is the first error; without a mark there is none. */
    private static void dueError(String marked) {
        int mark = marked.indexOf('|');
        String orders = mark < 0 ? marked : marked.substring(0, mark) + marked.substring(mark + 1);
        Checks.due("firstError of " + orders, Bounds.written(orders).firstError(), mark < 0 ? orders.length() : mark);
        if (mark >= 0) {
            dueNotComplete(orders);
        }
    }

    private static void dueNotComplete(String orders) {
        Bounds.refusedBy(() -> Bounds.written(orders), "obey of " + orders, Checks.ARGUMENT, x -> x.obey());
    }

    private static void dueDone(String orders, int done) {
        Checks.due("firstError of " + orders, Bounds.written(orders).firstError(), orders.length());
        Checks.due("obey of " + orders, Bounds.written(orders).obey(), done);
    }

    // ---- input text

    private static void atMost60Characters() {
        Bounds.hold(TERMS, "The buffer has at most 60 characters.");
        TandemClocks x = Bounds.written(Bounds.FULL.substring(0, 59));
        Checks.due("the 60th is taken", x.append('5'), 60);
        Bounds.refusedBy(() -> Bounds.written(Bounds.FULL), "the 61st", Checks.STATE, y -> y.append('5'));
        Checks.due("60 are done", x.obey(), 15);
        Checks.due("the first one again", x.append('t'), 1);
    }

    private static void oneOrMoreParts() {
        Bounds.hold(TERMS, "Orders as a text are one or more parts with \";\" between them");
        dueNotComplete("");
        dueDone("w0", 1);
        dueDone("w0;w1", 2);
        dueDone("w0;w1;w2;w3;w4;w5;w6;w7;w0;w1;w2;w3;w4;w5;w6;w7;w0;w1;w2;t99", 20);
        dueDone("k7-500;b72;w7;t99", 4);
        dueError("|;");
        dueError("|;w0");
        dueError("w0;|;");
        dueError("w0;|;w1");
        dueError("w0|w1");
        dueError("w0|,w1");
        dueError("w0|:w1");
        dueError("k0+5|k0+5");
        dueError("b01|b02");
        dueError("t9|t9");
        dueError("w0;");
        dueNotComplete("w0;");
        dueError("t9;k0+5;");
        dueNotComplete("t9;k0+5;");
        for (String letter : new String[] {"k", "b", "w", "t"}) {
            dueError(letter);
            dueNotComplete(letter);
        }
        for (String other : new String[] {"a", "c", "j", "l", "s", "u", "v", "x", "K", "B", "W", "T", "0", "+", "!", "~"}) {
            dueError("|" + other);
            dueError("w0;|" + other);
        }
    }

    private static void clocksOfKicks() {
        Bounds.hold(TERMS, "\"k\", a clock, 0 to 7,");
        dueDone("k0+5", 1);
        dueDone("k7+5", 1);
        dueError("k|/+5");
        dueError("k|8+5");
        dueError("k|9+5");
        dueError("k|+5");
        dueError("k|-1+5");
        dueError("k0|0+5");
        dueNotComplete("k7");
    }

    private static void signsOfKicks() {
        Bounds.hold(TERMS, "\"+\" or \"-\"");
        TandemClocks more = Bounds.written("k0+5");
        more.obey();
        Checks.due("+", more.clock(0, 7), 5);
        TandemClocks less = Bounds.written("k0-5");
        less.obey();
        Checks.due("-", less.clock(0, 7), -5);
        Checks.due("phase", less.clock(0, 2), 995);
        dueError("k0|5");
        dueError("k0|*5");
        dueError("k0|,5");
        dueError("k0|.5");
        dueError("k0+|+5");
        dueError("k0-|-5");
        dueError("k0+|-5");
        dueNotComplete("k0+");
        dueNotComplete("k0-");
    }

    private static void sizesOfKicks() {
        Bounds.hold(TERMS, "and 1 to 500 (a kick)");
        for (String sign : new String[] {"+", "-"}) {
            for (int size : new int[] {1, 9, 10, 49, 50, 51, 99, 100, 499, 500}) {
                TandemClocks x = Bounds.written("k7" + sign + size);
                Checks.due("obey of " + sign + size, x.obey(), 1);
                int by = sign.equals("+") ? size : -size;
                Checks.due("sum of kicks", x.clock(7, 7), by);
                Checks.due("phase", x.clock(7, 2), Math.floorMod(700 + by, 1000));
            }
            dueError("k7" + sign + "|0");
            dueError("k7" + sign + "50|1");
            dueError("k7" + sign + "50|9");
            dueError("k7" + sign + "51|0");
            dueError("k7" + sign + "60|0");
            dueError("k7" + sign + "99|9");
            dueError("k7" + sign + "100|0");
            dueError("k7" + sign + "500|0");
            dueError("k7" + sign + "5|/");
            dueError("k7" + sign + "5|:");
        }
    }

    private static void clocksThatAreMoved() {
        Bounds.hold(TERMS, "\"b\", a clock, and a beam, 0 to 2 (it is moved)");
        dueDone("b01", 1);
        dueDone("b70", 1);
        dueError("b|/1");
        dueError("b|81");
        dueError("b|-");
        dueError("b|;");
        dueNotComplete("b");
        dueNotComplete("b7");
    }

    private static void beamsTheyAreMovedTo() {
        Bounds.hold(TERMS, "a beam, 0 to 2 (it is moved)");
        TandemClocks least = Bounds.written("b10");
        Checks.due("obey of b10", least.obey(), 1);
        Checks.due("beam", least.clock(1, 0), 0);
        TandemClocks most = Bounds.written("b12");
        Checks.due("obey of b12", most.obey(), 1);
        Checks.due("beam", most.clock(1, 0), 2);
        dueError("b1|/");
        dueError("b1|3");
        dueError("b1|9");
        dueError("b1|;");
        dueError("b1|-");
        dueError("b10|0");
        dueError("b12|2");
    }

    private static void clocksThatAreWound() {
        Bounds.hold(TERMS, "\"w\" and a clock (it is wound)");
        TandemClocks x = Bounds.written("w0;w7");
        Checks.due("obey", x.obey(), 2);
        Checks.due("first clock", x.clock(0, 3), 99);
        Checks.due("last clock", x.clock(7, 3), 99);
        Checks.due("another one", x.clock(3, 3), 50);
        dueError("w|/");
        dueError("w|8");
        dueError("w|;");
        dueError("w7|0");
        dueNotComplete("w");
    }

    private static void ticksThatPass() {
        Bounds.hold(TERMS, "\"t\" and ticks, 1 to 99 (they pass).");
        for (int ticks : new int[] {1, 9, 10, 11, 98, 99}) {
            TandemClocks x = Bounds.written("t" + ticks);
            Checks.due("obey of t" + ticks, x.obey(), 1);
            Checks.due("ticks", x.count(0), ticks);
        }
        dueError("t|0");
        dueError("t10|0");
        dueError("t10|1");
        dueError("t99|0");
        dueError("t20|0");
        dueError("t|+1");
        dueError("t|-1");
        dueError("t|;");
        dueError("t|/");
        dueError("t|:");
        dueError("t9|/");
        dueError("t9|:");
        dueNotComplete("t");
    }

    private static void noLeadingZeros() {
        Bounds.hold(TERMS, "Numbers have no leading zeros.");
        dueError("k0+|05");
        dueError("k0-|0500");
        dueError("t|09");
        dueError("t|00");
        dueError("k0|0+5");
        dueError("w0|0");
        dueError("b00|0");
        dueDone("t10", 1);
        dueDone("k0+100;t90", 2);
    }

    private static void readFromLeftToRight() {
        Bounds.hold(TERMS, "The buffer is read from left to right");
        dueError("t9|x;x");
        dueError("|xt9");
        dueError("t9;w0;|9;w9");
        dueError("k0+500;t99;b|9");
        dueError("t99;t9");
    }

    private static void ofAnyLength() {
        Bounds.hold(TERMS, "a character is a syntax error if no orders as a text, of any length, begin with the characters before it");
        String begun = NEARLY_FULL + "w0;t";
        Checks.due("full", begun.length(), 60);
        dueError(begun);
        dueNotComplete(begun);
        dueError(NEARLY_FULL + "w0;k");
        dueError(NEARLY_FULL + "k0+");
        dueError(NEARLY_FULL + "k0+5");
        dueError(NEARLY_FULL + "w0;|x");
        dueError(NEARLY_FULL + "k0+|0");
        dueError(NEARLY_FULL + "b01|2");
        dueError("t99;t99;t99;t99;t99;t99;t99;t99;t99;t99;t99;t99;t99;t9;t99;t");
        dueError("");
    }

    // ---- undo

    private static void savedAlsoIfNothingIsChanged() {
        Bounds.hold(TERMS, "saves the state from before it (also if it changes nothing)");
        TandemClocks x = new TandemClocks();
        x.wind(3);
        x.wind(3);
        Checks.due("wind", x.count(9), 2);
        x.speed(3, 33);
        Checks.due("speed", x.count(9), 3);
        x.give(0, 4);
        Checks.due("give", x.count(9), 4);
        x.set(1, 40);
        Checks.due("set", x.count(9), 5);
        TandemClocks y = new TandemClocks();
        y.keep();
        y.goBack();
        Checks.due("goBack", y.count(9), 1);
        Checks.write(y, "b00");
        Checks.due("done", y.obey(), 0);
        Checks.due("obey", y.count(9), 2);
        Checks.due("undo of obey", y.undo(), 1);
        Checks.due("undo of goBack", y.undo(), 0);
    }

    /** Every number of every clock, of the pairs, of the beams and of all is changed, then restored. */
    private static void savedWhatIsCounted() {
        Bounds.hold(TERMS, "all, also what is counted so far");
        TandemClocks x = allChanged();
        x.keep();
        Checks.write(x, "k0+5;k1+5;k2+5;k3+5;k4+5;k5+5;k6+5;k7+5;b01;b02;t99");
        x.obey();
        x.undo();
        dueSame("undo", x, allChanged());
        TandemClocks back = allChanged();
        back.keep();
        for (int clock = 0; clock < 8; clock++) {
            back.move(clock, back.clock(clock, 0) == 0 ? 2 : 0);
            back.kick(clock, -77);
            back.wind(clock);
            back.speed(clock, 10);
        }
        for (int k = 0; k < 3; k++) {
            back.give(k, 13);
            back.set(k, 23);
        }
        back.pass(111);
        back.goBack();
        dueSame("goBack", back, allChanged());
    }

    private static TandemClocks allChanged() {
        TandemClocks x = Bounds.inOneRow(0);
        for (int clock = 0; clock < 8; clock++) {
            x.kick(clock, 3 * clock + 1);
        }
        for (int beam = 0; beam < 3; beam++) {
            x.give(beam, beam + 1);
        }
        x.pass(200);
        x.move(1, 2);
        x.wind(7);
        x.set(0, 10);
        x.set(1, 60);
        x.set(2, 9);
        x.pass(40);
        return x;
    }

    private static void dueSame(String what, TandemClocks x, TandemClocks same) {
        for (int clock = 0; clock < 8; clock++) {
            for (int number = 0; number <= 10; number++) {
                Checks.due(what + ", number " + number + " of " + clock, x.clock(clock, number), same.clock(clock, number));
            }
            for (int other = 0; other < 8; other++) {
                if (other != clock) {
                    Checks.due(what + ", ticks near", x.pair(clock, other, 1), same.pair(clock, other, 1));
                }
            }
        }
        for (int k = 0; k < 3; k++) {
            Checks.due(what + ", give", x.beam(k, 0), same.beam(k, 0));
            Checks.due(what + ", setting", x.setting(k), same.setting(k));
        }
        for (int number = 0; number <= 8; number++) {
            Checks.due(what + ", count " + number, x.count(number), same.count(number));
        }
    }

    private static void savedButTheBufferAndTheSnapshot() {
        Bounds.hold(TERMS, "but the buffer, the snapshot and the saved states.");
        TandemClocks x = new TandemClocks();
        x.pass(1);
        x.keep();
        Checks.write(x, "t5");
        x.pass(2);
        x.keep();
        Checks.write(x, "0");
        Checks.due("undo", x.undo(), 1);
        Checks.due("undo", x.undo(), 0);
        Checks.due("the buffer stays", x.append(';'), 4);
        Checks.due("the snapshot stays", x.goBack(), 3);
        TandemClocks y = Bounds.written("t50");
        y.obey();
        y.undo();
        Checks.due("the buffer stays clear", y.clearBuffer(), 0);
        TandemClocks z = new TandemClocks();
        z.pass(1);
        z.keep();
        z.undo();
        Checks.due("the snapshot stays behind the last undo", z.goBack(), 1);
    }

    private static TandemClocks passed(int deeds) {
        TandemClocks x = new TandemClocks();
        for (int deed = 1; deed <= deeds; deed++) {
            x.pass(deed);
        }
        return x;
    }

    private static void atMost6StatesAreSaved() {
        Bounds.hold(TERMS, "At most 6 states are saved");
        int[] saved = {0, 1, 2, 3, 4, 5, 6, 6, 6, 6, 6, 6, 6, 6};
        for (int deeds = 0; deeds < saved.length; deeds++) {
            Checks.due("saved behind " + deeds, passed(deeds).count(9), saved[deeds]);
        }
    }

    private static void theOldestIsDroppedFirst() {
        Bounds.hold(TERMS, "the oldest one is dropped first.");
        for (int deeds : new int[] {5, 6, 7, 8, 12, 13, 20}) {
            TandemClocks x = passed(deeds);
            int restored = Math.min(deeds, 6);
            int ticks = deeds * (deeds + 1) / 2;
            for (int back = 1; back <= restored; back++) {
                Checks.due("left", x.undo(), restored - back);
                ticks -= deeds + 1 - back;
                Checks.due("ticks behind " + back + " undos of " + deeds, x.count(0), ticks);
            }
            Checks.dueThrow("one undo more", x, Checks.STATE, () -> x.undo());
            Checks.due("ticks", x.count(0), ticks);
        }
        TandemClocks between = passed(7);
        between.undo();
        between.undo();
        between.pass(10);
        Checks.due("two dropped, one saved", between.count(9), 5);
        for (int left = 4; left >= 0; left--) {
            Checks.due("left", between.undo(), left);
        }
        Checks.due("ticks of the first one left", between.count(0), 1);
    }

    private static void refusedCallsSaveNothing() {
        Bounds.hold(TERMS, "Each method that is marked \"undoable\" and does not throw an exception saves the state");
        Bounds.refused("pass(0)", Checks.ARGUMENT, x -> x.pass(0));
        Bounds.refused("kick(0, 0)", Checks.ARGUMENT, x -> x.kick(0, 0));
        Bounds.refused("move(0, 0)", Checks.STATE, x -> x.move(0, 0));
        Bounds.refused("wind(8)", Checks.INDEX, x -> x.wind(8));
        Bounds.refused("speed(0, 9)", Checks.ARGUMENT, x -> x.speed(0, 9));
        Bounds.refused("give(0, 21)", Checks.ARGUMENT, x -> x.give(0, 21));
        Bounds.refused("set(2, 0)", Checks.ARGUMENT, x -> x.set(2, 0));
        Bounds.refused("obey()", Checks.ARGUMENT, x -> x.obey());
        Bounds.refusedBy(() -> passed(7), "goBack()", Checks.STATE, x -> x.goBack());
    }

    // ---- exceptions

    private static void refusedCallsChangeNothing() {
        Bounds.hold(TERMS, "A call that throws an exception changes nothing.");
        TandemClocks x = Bounds.rich();
        String before = Bounds.told(Bounds.rich());
        int refused = 0;
        for (int call = 0; call < 24; call++) {
            try {
                refuse(x, call);
            } catch (IndexOutOfBoundsException | IllegalArgumentException | IllegalStateException e) {
                refused++;
            }
        }
        Checks.due("refused", refused, 24);
        Checks.dueText("all of them left", Bounds.told(x), before);
    }

    private static long refuse(TandemClocks x, int call) {
        switch (call) {
            case 0: return x.pass(201);
            case 1: return x.kick(8, 1);
            case 2: return x.kick(7, 501);
            case 3: return x.move(8, 0);
            case 4: return x.move(7, 3);
            case 5: return x.move(7, 1);
            case 6: return x.wind(-1);
            case 7: return x.speed(-1, 30);
            case 8: return x.speed(7, 61);
            case 9: return x.give(3, 4);
            case 10: return x.give(2, -1);
            case 11: return x.set(3, 5);
            case 12: return x.set(2, 51);
            case 13: return x.append(127);
            case 14: return x.obey();
            case 15: return x.clock(0, 11);
            case 16: return x.pair(5, 5, 0);
            case 17: return x.beam(0, 5);
            case 18: return x.count(10);
            case 19: return x.setting(3);
            case 20: return x.ifPassed(201, 0, 0);
            case 21: return x.lockedIn(0, 0);
            case 22: return x.bestGive(3);
            default: return x.ifPassed(1, 8, 0);
        }
    }

    private static void theFirstNamedIsThrown() {
        Bounds.hold(TERMS, "If several exceptions apply, the one that is named first in the throws clause is thrown.");
        for (int clock : Bounds.outside(0, 7)) {
            Bounds.refused("kick(" + clock + ", 0)", Checks.INDEX, x -> x.kick(clock, 0));
            Bounds.refused("kick(" + clock + ", 501)", Checks.INDEX, x -> x.kick(clock, 501));
            Bounds.refused("speed(" + clock + ", 9)", Checks.INDEX, x -> x.speed(clock, 9));
            Bounds.refused("clock(" + clock + ", 11)", Checks.INDEX, x -> x.clock(clock, 11));
            Bounds.refused("pair(" + clock + ", 0, 3)", Checks.INDEX, x -> x.pair(clock, 0, 3));
            Bounds.refused("pair(0, " + clock + ", -1)", Checks.INDEX, x -> x.pair(0, clock, -1));
            Bounds.refused("ifPassed(0, " + clock + ", 0)", Checks.INDEX, x -> x.ifPassed(0, clock, 0));
            Bounds.refused("ifPassed(1, " + clock + ", 3)", Checks.INDEX, x -> x.ifPassed(1, clock, 3));
        }
        for (int beam : Bounds.outside(0, 2)) {
            Bounds.refused("give(" + beam + ", 21)", Checks.INDEX, x -> x.give(beam, 21));
            Bounds.refused("beam(" + beam + ", 5)", Checks.INDEX, x -> x.beam(beam, 5));
            Bounds.refused("set(" + beam + ", 201)", Checks.INDEX, x -> x.set(beam, 201));
            Bounds.refused("set(" + beam + ", -1)", Checks.INDEX, x -> x.set(beam, -1));
            Bounds.refused("move(8, " + beam + ")", Checks.INDEX, x -> x.move(8, beam));
        }
        Bounds.refused("pair(3, 3, 3)", Checks.INDEX, x -> x.pair(3, 3, 3));
        for (int code : Bounds.outside(33, 126)) {
            Bounds.refusedBy(() -> Bounds.written(Bounds.FULL), "append to a full buffer", Checks.ARGUMENT, x -> x.append(code));
        }
    }
}
