import java.util.ArrayList;
import java.util.List;
import java.util.TreeSet;

/** Each sentence from the document's first line to the end of "Terms" that names no boundary case, or not it alone. */
public final class PlainTermsTest {
    private static final String TERMS = "Terms";
    private static final String OPENING = "What it is";

    public static void main(String[] args) {
        pullEachOtherIntoStep();
        speedsPhasesAndSprings();
        beamsWithMoreOrLessGive();
        nearAndLocked();
        groupsToldInTwoWays();
        whyAndWhen();
        whichGive();
        waysAddUp();
        ordersSnapshotAndUndo();
        atMost512Calls();
        gapsAreDifferencesOfPhases();
        pullsOfATick();
        goingOnInATick();
        strikesOfATick();
        pairsBehindATick();
        syntaxErrors();
        Checks.under("");
        Checks.end("PlainTermsTest");
    }

    // ---- the opening

    /** Clocks 1, 3, 4 and 7 hang on beam 1, in one half of a turn. */
    private static TandemClocks onBeam1(int give) {
        TandemClocks x = new TandemClocks();
        x.kick(7, -250);
        x.move(3, 1);
        x.give(1, give);
        x.set(0, 50);
        return x;
    }

    private static void pullEachOtherIntoStep() {
        Bounds.hold(OPENING, "Clocks on beams that pull each other into step");
        TandemClocks x = onBeam1(20);
        Checks.due("clocks in step at first", x.count(6), 1);
        x.pass(90);
        Checks.due("clocks 1, 3, 4 and 7 in step behind 90 ticks", x.clock(1, 10), 154);
        TandemClocks unpulled = onBeam1(0);
        unpulled.pass(90);
        Checks.due("without a give none is in step", unpulled.count(6), 1);
    }

    private static void speedsPhasesAndSprings() {
        Bounds.hold(OPENING, "clocks with speeds and phases, springs that run down");
        TandemClocks x = Checks.withoutPulls();
        x.speed(6, 50);
        Checks.due("speed", x.clock(6, 1), 50);
        Checks.due("phase", x.clock(6, 2), 600);
        Checks.due("spring", x.clock(6, 3), 50);
        x.pass(18);
        Checks.due("phase by the speed", x.clock(6, 2), 500);
        Checks.due("the spring ran down by a strike", x.clock(6, 3), 49);
        Checks.due("all springs run down", Checks.runDown().count(2), 0);
    }

    private static void beamsWithMoreOrLessGive() {
        Bounds.hold(OPENING, "beams with more or less give, pulls between the clocks of a beam that are computed all at once, strikes");
        for (int give = 0; give <= 20; give++) {
            TandemClocks x = Bounds.two(give, 400);
            x.set(0, 50);
            Checks.due("pull by a give of " + give, x.clock(2, 5), 2 * give);
            int struck = x.pass(1);
            Checks.due("way of 2", x.clock(2, 6), 32 + 2 * give);
            Checks.due("way of 5, at once", x.clock(5, 6), Math.max(0, 35 - 2 * give));
            Checks.due("strikes", struck, 0);
            Checks.due("strikes of 50 ticks", x.pass(50) > 0 ? 1 : 0, 1);
        }
    }

    private static void nearAndLocked() {
        Bounds.hold(OPENING, "pairs of clocks that are near and become locked when they are near long enough");
        TandemClocks x = Bounds.sideBySide(25);
        for (int ticks = 0; ticks <= 12; ticks++) {
            Checks.due("near for " + ticks, x.pair(0, 3, 1), ticks);
            Checks.due("locked behind " + ticks, x.pair(0, 3, 2), ticks < 8 ? 4 : 0);
            x.pass(1);
        }
    }

    private static void groupsToldInTwoWays() {
        Bounds.hold(OPENING, "groups of locked clocks told in two ways");
        TreeSet<Integer> told = new TreeSet<>();
        for (int ticks = 1; ticks <= 140; ticks += 3) {
            TandemClocks x = onBeam1(20);
            x.give(0, 12);
            x.give(2, 16);
            x.pass(ticks);
            TreeSet<Integer> masks = new TreeSet<>();
            for (int clock = 0; clock < 8; clock++) {
                masks.add(x.clock(clock, 10));
            }
            told.add(masks.size());
            Checks.due("by joining, behind " + ticks, x.count(4), masks.size());
            Checks.due("by walking, behind " + ticks, x.count(5), masks.size());
        }
        Checks.due("many numbers of groups are told", told.size() >= 4 ? 1 : 0, 1);
    }

    private static void whyAndWhen() {
        Bounds.hold(OPENING, "why two clocks are not locked, when they will be");
        TandemClocks x = onBeam1(20);
        int when = x.lockedIn(1, 4);
        Checks.due("they will be", when > 1 ? 1 : 0, 1);
        x.pass(when - 1);
        Checks.due("not near long enough", x.pair(1, 4, 2), 4);
        x.pass(1);
        Checks.due("locked", x.pair(1, 4, 2), 0);
    }

    private static void whichGive() {
        Bounds.hold(OPENING, "which give brings the most clocks into step");
        TandemClocks x = onBeam1(0);
        int best = x.bestGive(1);
        Checks.due("some give is needed", best > 0 ? 1 : 0, 1);
        TandemClocks less = onBeam1(best - 1);
        less.pass(100);
        x.give(1, best);
        x.pass(100);
        Checks.due("with 1 less there are more groups", less.count(4) > x.count(4) ? 1 : 0, 1);
    }

    private static void waysAddUp() {
        Bounds.hold(OPENING, "ways that each clock went and how they add up");
        for (int give = 0; give <= 20; give += 5) {
            TandemClocks x = onBeam1(give);
            x.pass(77);
            for (int clock = 0; clock < 8; clock++) {
                int turns = 1000 * x.clock(clock, 4);
                int first = clock == 7 ? 450 : 100 * clock;
                Checks.due("first phase and way of " + clock, first + x.clock(clock, 6), x.clock(clock, 2) + turns);
                x.kick(clock, 90 * clock - 333);
            }
            x.pass(200);
            x.kick(5, -500);
            x.pass(3);
            for (int clock = 0; clock < 8; clock++) {
                int sum = 100 * clock + x.clock(clock, 6) + x.clock(clock, 7);
                Checks.due("first phase, way and kicks of " + clock, Math.floorMod(sum, 1000), x.clock(clock, 2));
            }
        }
    }

    private static void ordersSnapshotAndUndo() {
        Bounds.hold(OPENING, "orders as texts with errors by place, a snapshot and undo.");
        TandemClocks x = Bounds.written("b31;t90;k8+5");
        Checks.due("the error's place", x.firstError(), 9);
        x.clearBuffer();
        Checks.write(x, "b31;t90;k7+5");
        Checks.due("orders done", x.obey(), 3);
        Checks.due("snapshot", x.keep(), 90);
        x.pass(5);
        Checks.due("back", x.goBack(), 90);
        Checks.due("undo", x.undo(), 2);
        Checks.due("ticks", x.count(0), 95);
    }

    private static void atMost512Calls() {
        Bounds.hold(OPENING, "An object is used for at most 512 calls after it has been made");
        TandemClocks x = new TandemClocks();
        for (int call = 1; call <= 510; call++) {
            Checks.due("call " + call, x.kick(0, 1), call);
        }
        Checks.due("call 511", x.undo(), 5);
        Checks.due("call 512", x.clock(0, 7), 509);
    }

    // ---- gaps

    private static void gapsAreDifferencesOfPhases() {
        Bounds.hold(TERMS, "The gap from a clock to another one is the phase of the other one less its own, less 1000 if that is 500 or more, and 1000 more if that is below -500; so it is from -500 to 499.");
        TandemClocks x = new TandemClocks();
        for (int clock = 0; clock < 8; clock++) {
            for (int other = 0; other < 8; other++) {
                if (clock != other) {
                    Checks.due("gap from " + clock + " to " + other, x.pair(clock, other, 0), gap(100 * clock, 100 * other));
                }
            }
        }
    }

    private static int gap(int own, int other) {
        int gap = other - own;
        if (gap >= 500) {
            return gap - 1000;
        }
        return gap < -500 ? gap + 1000 : gap;
    }

    // ---- a tick, by what looks tell before it and behind it

    /** What can be seen of an object: some hundred calls. */
    private static final class Seen {
        final int[][] clocks = new int[8][7];
        final int[][] near = new int[8][8];
        final int[] gives = new int[3];
        final int[] settings = new int[3];

        Seen(TandemClocks x) {
            for (int clock = 0; clock < 8; clock++) {
                for (int what = 0; what <= 6; what++) {
                    clocks[clock][what] = x.clock(clock, what);
                }
                for (int other = clock + 1; other < 8; other++) {
                    near[clock][other] = x.pair(clock, other, 1);
                }
            }
            for (int k = 0; k < 3; k++) {
                gives[k] = x.beam(k, 0);
                settings[k] = x.setting(k);
            }
        }

        boolean goes(int clock) {
            return clocks[clock][3] > 0;
        }

        boolean together(int clock, int other) {
            return goes(clock) && goes(other) && clocks[clock][0] == clocks[other][0];
        }

        int gapOf(int clock, int other) {
            return gap(clocks[clock][2], clocks[other][2]);
        }

        int wayDue(int clock) {
            return goes(clock) ? Math.max(0, clocks[clock][1] + clocks[clock][5]) : 0;
        }
    }

    private interface Look {
        void at(Seen before, Seen behind, int clock);
    }

    /** Looks at each clock before and behind one tick, in objects of all kinds. */
    private static void atTicks(Look look) {
        for (int kind = 0; kind < 5; kind++) {
            for (int ticks = 1; ticks <= 181; ticks += 6) {
                TandemClocks x = ofKind(kind);
                x.pass(ticks);
                Seen before = new Seen(x);
                x.pass(1);
                Seen behind = new Seen(x);
                for (int clock = 0; clock < 8; clock++) {
                    look.at(before, behind, clock);
                }
            }
        }
    }

    private static TandemClocks ofKind(int kind) {
        TandemClocks x = onBeam1(kind == 1 ? 20 : 7);
        switch (kind) {
            case 0:
                return new TandemClocks();
            case 1:
                x.move(0, 1);
                x.move(2, 1);
                x.speed(2, 10);
                x.speed(7, 60);
                return x;
            case 2:
                x.speed(1, 60);
                x.speed(2, 60);
                for (int times = 0; times < 4; times++) {
                    x.pass(200);
                }
                x.speed(4, 50);
                return x;
            case 3:
                x.set(1, 200);
                x.set(0, 3);
                x.give(2, 1);
                x.speed(0, 10);
                return x;
            default:
                return Bounds.inOneRow(11);
        }
    }

    private static void pullsOfATick() {
        Bounds.hold(TERMS, "In a tick the pulls of all clocks that go are found first, by the phases as they are: the pull of a clock is the sum, over all other clocks that go and hang on the same beam, of the gap to this other clock times the give of the beam, divided by 200; but it is at most setting 0, and at least 0 less setting 0. Each of the divisions is rounded by itself.");
        TreeSet<Integer> seen = new TreeSet<>();
        atTicks((before, behind, clock) -> {
            int sum = 0;
            for (int other = 0; other < 8; other++) {
                if (other != clock && before.together(clock, other)) {
                    sum += before.gapOf(clock, other) * before.gives[before.clocks[clock][0]] / 200;
                }
            }
            int bound = before.settings[0];
            int pull = Math.max(-bound, Math.min(bound, sum));
            seen.add(pull);
            Checks.due("pull of " + clock, before.clocks[clock][5], pull);
            int way = before.goes(clock) ? Math.max(0, before.clocks[clock][1] + pull) : 0;
            Checks.due("way by the pull", behind.clocks[clock][6] - before.clocks[clock][6], way);
        });
        Checks.due("many pulls are seen", seen.size() >= 30 ? 1 : 0, 1);
        Checks.due("the least of them", seen.first(), -50);
        Checks.due("the most of them", seen.last(), 50);
    }

    private static void goingOnInATick() {
        Bounds.hold(TERMS, "Then each clock that goes goes on by its speed and its pull together, but not by less than 0: its phase becomes more by that.");
        int[] stopped = new int[2];
        atTicks((before, behind, clock) -> {
            int way = before.wayDue(clock);
            stopped[0] += before.goes(clock) && way == 0 ? 1 : 0;
            stopped[1] += before.goes(clock) ? 0 : 1;
            int phase = (before.clocks[clock][2] + way) % 1000;
            Checks.due("phase of " + clock, behind.clocks[clock][2], phase);
            Checks.due("way of " + clock, behind.clocks[clock][6], before.clocks[clock][6] + way);
            Checks.due("speed of " + clock, behind.clocks[clock][1], before.clocks[clock][1]);
        });
        Checks.due("some are held back wholly", stopped[0] > 0 ? 1 : 0, 1);
        Checks.due("some do not go", stopped[1] > 0 ? 1 : 0, 1);
    }

    private static void strikesOfATick() {
        Bounds.hold(TERMS, "If the phase is 1000 or more then, the clock strikes: its phase becomes 1000 less, and its spring 1 less.");
        int[] struck = new int[1];
        atTicks((before, behind, clock) -> {
            int strikes = before.clocks[clock][2] + before.wayDue(clock) >= 1000 ? 1 : 0;
            struck[0] += strikes;
            Checks.due("strikes of " + clock, behind.clocks[clock][4], before.clocks[clock][4] + strikes);
            Checks.due("spring of " + clock, behind.clocks[clock][3], before.clocks[clock][3] - strikes);
        });
        Checks.due("some strike", struck[0] > 0 ? 1 : 0, 1);
    }

    private static void pairsBehindATick() {
        Bounds.hold(TERMS, "At the end of the tick each pair of clocks is looked at: if both go and hang on the same beam, and the gap from the one with the lower number to the other is, without its sign, at most setting 1, they have been near for one tick more; otherwise they have been near for 0 ticks.");
        int[] seen = new int[2];
        atTicks((before, behind, clock) -> {
            for (int other = clock + 1; other < 8; other++) {
                boolean near = behind.together(clock, other) && Math.abs(behind.gapOf(clock, other)) <= behind.settings[1];
                seen[near ? 1 : 0] += before.near[clock][other] > 0 ? 1 : 0;
                Checks.due("near", behind.near[clock][other], near ? before.near[clock][other] + 1 : 0);
            }
        });
        Checks.due("some are near no more", seen[0] > 0 ? 1 : 0, 1);
        Checks.due("some are near for one tick more", seen[1] > 0 ? 1 : 0, 1);
    }

    // ---- syntax errors

    /** Each text with which a complete order begins, and each complete order: all 8131 of them, written out. */
    private static final TreeSet<String> BEGUN = new TreeSet<>();
    private static final TreeSet<String> ORDERS = new TreeSet<>();

    private static void writeOutAllOrders() {
        for (int clock = 0; clock <= 7; clock++) {
            for (int size = 1; size <= 500; size++) {
                addOrder("k" + clock + "+" + size);
                addOrder("k" + clock + "-" + size);
            }
            for (int beam = 0; beam <= 2; beam++) {
                addOrder("b" + clock + beam);
            }
            addOrder("w" + clock);
        }
        for (int ticks = 1; ticks <= 99; ticks++) {
            addOrder("t" + ticks);
        }
    }

    private static void addOrder(String order) {
        ORDERS.add(order);
        for (int length = 0; length <= order.length(); length++) {
            BEGUN.add(order.substring(0, length));
        }
    }

    private static int errorDue(String text) {
        int start = 0;
        for (int at = 0; at < text.length(); at++) {
            boolean ends = text.charAt(at) == ';' && ORDERS.contains(text.substring(start, at));
            if (!ends && !BEGUN.contains(text.substring(start, at + 1))) {
                return at;
            }
            start = ends ? at + 1 : start;
        }
        return text.length();
    }

    private static void syntaxErrors() {
        Bounds.hold(TERMS, "The buffer is read from left to right; a character is a syntax error if no orders as a text, of any length, begin with the characters before it and this character.");
        writeOutAllOrders();
        Checks.due("orders", ORDERS.size(), 8 * 2 * 500 + 24 + 8 + 99);
        String signs = "kbwt+-;0123456789";
        List<String> texts = new ArrayList<>(List.of(""));
        for (int from = 0; texts.get(from).length() < 4; from++) {
            String text = texts.get(from);
            dueError(text);
            for (int sign = 0; sign < signs.length() && errorDue(text) == text.length(); sign++) {
                texts.add(text + signs.charAt(sign));
            }
        }
        List<String> orders = new ArrayList<>(ORDERS);
        for (int at = 0; at < 3000; at++) {
            StringBuilder text = new StringBuilder();
            for (int place = 1; text.length() < 60; place++) {
                text.append(orders.get((at * 2711 + place * place * 1373) % orders.size())).append(';');
            }
            text.setLength(60);
            dueError(text.toString());
            text.setCharAt(at * 7 % 60, signs.charAt(at % signs.length()));
            dueError(text.toString());
        }
    }

    private static void dueError(String text) {
        Checks.due("firstError of " + text, Bounds.written(text).firstError(), errorDue(text));
    }
}
