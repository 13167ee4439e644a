import java.io.IOException;
import java.nio.file.Files;
import java.nio.file.Path;
import java.util.ArrayList;
import java.util.List;
import java.util.TreeSet;

/** What the tests of boundary cases share: the sentence that a test holds, objects at an edge, and calls that are refused. */
final class Bounds {
    interface Make {
        TandemClocks made();
    }

    interface Call {
        long answer(TandemClocks x);
    }

    /** 60 characters, and 15 orders. */
    static final String FULL = "t99;t99;t99;t99;t99;t99;t99;t99;t99;t99;t99;t99;t99;t99;k0+5";

    private static final Path DOCUMENT = Path.of("../shared/DOC.md");
    private static final int LEAST_INT = Integer.MIN_VALUE;
    private static final int MOST_INT = Integer.MAX_VALUE;

    private static final TreeSet<String> HELD = new TreeSet<>();
    private static String document = "";

    private Bounds() {
    }

    // ---- sentences

    /** From here on the checks hold this sentence, which must stand in this section of the document. */
    static void hold(String section, String sentence) {
        HELD.add(section);
        Checks.under(section + ", \"" + sentence + "\": ");
        if (!section(section).contains(sentence)) {
            Checks.tell("this sentence does not stand there");
        }
    }

    /** Ends a test, which must have held a sentence of each of these promises. */
    static void end(String test, int firstPromise, int lastPromise) {
        Checks.under("");
        for (int number = firstPromise; number <= lastPromise; number++) {
            if (!HELD.contains("Promise " + number)) {
                Checks.tell(test + " holds no sentence of promise " + number);
            }
        }
        Checks.end(test);
    }

    private static String section(String name) {
        if (document.isEmpty()) {
            document = read() + "\n## ";
        }
        int start = document.indexOf(name.startsWith("Promise") ? "\n## " + name + ":" : "\n## " + name + "\n");
        return start < 0 ? "" : document.substring(start, document.indexOf("\n## ", start + 1));
    }

    private static String read() {
        try {
            return Files.readString(DOCUMENT);
        } catch (IOException e) {
            return "no document: " + e;
        }
    }

    // ---- objects at an edge

    /** An object that has everything: six saved states unlike each other, a snapshot, locked clocks, a text begun. */
    static TandemClocks rich() {
        TandemClocks x = new TandemClocks();
        x.move(3, 1);
        x.set(0, 50);
        x.give(1, 20);
        x.pass(60);
        x.kick(2, -300);
        x.keep();
        x.wind(4);
        x.speed(5, 44);
        x.set(1, 55);
        x.pass(7);
        x.kick(6, 123);
        Checks.write(x, "k3+5;t");
        return x;
    }

    /** Clocks 2 and 5 are alone on beam 2; the gap from 2 to 5 is this one. */
    static TandemClocks two(int give, int gap) {
        TandemClocks x = new TandemClocks();
        x.give(2, give);
        Checks.putPhase(x, 5, Math.floorMod(200 + gap, 1000));
        return x;
    }

    /** Without pulls, clocks 0 and 3 go alike, and the gap from 0 to 3 is this one. */
    static TandemClocks sideBySide(int gap) {
        TandemClocks x = Checks.withoutPulls();
        x.speed(3, 30);
        Checks.putPhase(x, 3, Math.floorMod(gap, 1000));
        return x;
    }

    /** Behind 999 ticks: the clock has a spring of 1 and a phase of 950, the other one is 10 behind it; nothing pulls. */
    static TandemClocks beforeLastStrike(int clock, int other) {
        TandemClocks x = Checks.withoutPulls();
        x.speed(clock, 50);
        x.speed(other, 50);
        Checks.putPhase(x, clock, 0);
        Checks.putPhase(x, other, 990);
        x.wind(other);
        for (int times = 0; times < 4; times++) {
            x.pass(200);
        }
        x.pass(199);
        return x;
    }

    /** All clocks hang on beam 0 and go alike from the phases 0, step, twice step and on; nothing pulls. */
    static TandemClocks inOneRow(int step) {
        TandemClocks x = Checks.withoutPulls();
        for (int clock = 0; clock < 8; clock++) {
            if (clock % 3 != 0) {
                x.move(clock, 0);
            }
            x.speed(clock, 30);
            Checks.putPhase(x, clock, step * clock);
        }
        return x;
    }

    static TandemClocks written(String orders) {
        TandemClocks x = new TandemClocks();
        Checks.write(x, orders);
        return x;
    }

    // ---- calls that are refused

    /** A new object and one that has everything both refuse the call. */
    static void refused(String what, Class<? extends RuntimeException> want, Call call) {
        refusedBy(TandemClocks::new, what + " on a new object", want, call);
        refusedBy(Bounds::rich, what, want, call);
    }

    /** The call throws just this class, and all that can be told of the object is as it is without the call. */
    static void refusedBy(Make make, String what, Class<? extends RuntimeException> want, Call call) {
        TandemClocks x = make.made();
        String got = "nothing";
        try {
            call.answer(x);
        } catch (RuntimeException e) {
            got = e.getClass().getName();
        }
        Checks.dueText(what + " threw", got, want.getName());
        Checks.dueText(what + " left", told(x), told(make.made()));
    }

    /** The state, then each saved state and the snapshot, as the digest tells them: at most some twenty calls. */
    static String told(TandemClocks x) {
        List<Long> all = new ArrayList<>();
        all.add(x.digest());
        int saved = x.count(9);
        for (int left = saved; left > 0; left--) {
            all.add((long) x.undo());
            all.add(x.digest());
        }
        try {
            all.add((long) x.goBack());
            all.add(x.digest());
        } catch (IllegalStateException e) {
            all.add(0L);
        }
        all.add((long) x.clearBuffer());
        return all.toString();
    }

    /** The numbers next to the ends, and those at the ends of all numbers. */
    static int[] outside(int least, int most) {
        return new int[] {least - 1, most + 1, LEAST_INT, MOST_INT};
    }
}
