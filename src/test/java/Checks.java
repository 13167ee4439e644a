/** What the tests share: answers that are due, exceptions that are due, and the count of those that were not. */
final class Checks {
    interface Call {
        long answer();
    }

    static final Class<? extends RuntimeException> INDEX = IndexOutOfBoundsException.class;
    static final Class<? extends RuntimeException> ARGUMENT = IllegalArgumentException.class;
    static final Class<? extends RuntimeException> STATE = IllegalStateException.class;

    private static int wrong = 0;
    private static int checked = 0;
    private static String heading = "";

    private Checks() {
    }

    static void due(String what, long got, long want) {
        checked++;
        if (got != want) {
            tell(what + " answered " + got + ", due is " + want);
        }
    }

    static void dueShare(String what, double got, double want) {
        checked++;
        if (got != want) {
            tell(what + " answered " + got + ", due is " + want);
        }
    }

    static void dueText(String what, String got, String want) {
        checked++;
        if (!got.equals(want)) {
            tell(what + " " + got + ", due is " + want);
        }
    }

    static void tell(String what) {
        wrong++;
        System.out.println(heading + what);
    }

    /** What is told from here on is told with this ahead of it. */
    static void under(String newHeading) {
        heading = newHeading;
    }

    /** The call throws just this class, and nothing that can be seen of the object is another behind it. */
    static void dueThrow(String what, TandemClocks x, Class<? extends RuntimeException> want, Call call) {
        checked++;
        long before = x.digest();
        String got = "nothing";
        try {
            call.answer();
        } catch (RuntimeException e) {
            got = e.getClass().getName();
        }
        if (!got.equals(want.getName())) {
            tell(what + " threw " + got + ", due is " + want.getName());
        }
        if (x.digest() != before) {
            tell(what + " threw, but changed the object");
        }
    }

    static void write(TandemClocks x, String orders) {
        for (int at = 0; at < orders.length(); at++) {
            x.append(orders.charAt(at));
        }
    }

    /** An object whose clocks go on by their speeds alone. */
    static TandemClocks withoutPulls() {
        TandemClocks x = new TandemClocks();
        for (int beam = 0; beam < 3; beam++) {
            x.give(beam, 0);
        }
        return x;
    }

    /** An object none of whose clocks goes: their springs are all run down. */
    static TandemClocks runDown() {
        TandemClocks x = withoutPulls();
        for (int clock = 0; clock < 8; clock++) {
            x.speed(clock, 60);
        }
        for (int times = 0; times < 5; times++) {
            x.pass(200);
        }
        return x;
    }

    /** Puts a clock to a phase by a kick or two. */
    static void putPhase(TandemClocks x, int clock, int phase) {
        int way = Math.floorMod(phase - x.clock(clock, 2), 1000);
        if (way > 500) {
            x.kick(clock, 500);
            way -= 500;
        }
        if (way != 0) {
            x.kick(clock, way);
        }
    }

    static void end(String test) {
        System.out.println(test + ": " + checked + " checks, " + wrong + " wrong");
        if (wrong != 0) {
            System.exit(1);
        }
    }
}
