import java.lang.reflect.InvocationTargetException;
import java.lang.reflect.Method;
import java.util.ArrayList;
import java.util.HashMap;
import java.util.List;
import java.util.Map;

/** Holds the class against the model in long runs of calls that are the same each time. */
public final class ModelTest {
    private static final int RUNS = 300;
    private static final int CALLS = 512;
    private static final int[] ODD = {-1, -2, 8, 3, 61, 201, 501, -501, 127, 1000, Integer.MIN_VALUE, Integer.MAX_VALUE};
    private static final String[] PARTS = {
        "k0+5", "k3-500", "k6+499", "k1-77", "b01", "b30", "b62", "b11", "w0", "w7", "w4", "t99", "t1", "t50", "t99", "t8"};
    private static final String SIGNS = "kbwt;+-0123456789";

    private final Map<String, Method> ofClass = methodsByName(TandemClocks.class);
    private final Map<String, Method> ofModel = methodsByName(Model.class);
    private final List<String> told = new ArrayList<>();
    private final TandemClocks x = new TandemClocks();
    private final Model model = new Model();
    private final int kind;
    private long seed;

    private ModelTest(int run) {
        kind = run % 4;
        seed = run * 7919L + 17;
    }

    public static void main(String[] args) {
        for (int run = 0; run < RUNS; run++) {
            if (!new ModelTest(run).agrees(run)) {
                break;
            }
        }
        Checks.end("ModelTest");
    }

    private static Map<String, Method> methodsByName(Class<?> type) {
        Map<String, Method> methods = new HashMap<>();
        for (Method method : type.getDeclaredMethods()) {
            if (java.lang.reflect.Modifier.isPublic(method.getModifiers())) {
                methods.put(method.getName(), method);
            }
        }
        return methods;
    }

    private boolean agrees(int run) {
        begin();
        for (int at = 0; told.size() < CALLS; at++) {
            String name = nextName();
            Method method = ofModel.get(name);
            Object[] arguments = new Object[method.getParameterCount()];
            for (int place = 0; place < arguments.length; place++) {
                arguments[place] = argument(name, place);
            }
            if (!same(run, name, arguments) || at % 8 == 7 && !same(run, "digest")) {
                return false;
            }
        }
        return true;
    }

    /** Half the runs bring the clocks into step; one in four lets springs run down. */
    private void begin() {
        if (kind >= 2) {
            for (int clock = 0; clock < 8; clock++) {
                if (clock % 3 != 1 && below(3) > 0) {
                    same(0, "move", clock, 1);
                }
                same(0, "speed", clock, 30 + below(3));
            }
            same(0, "give", 1, 12 + below(9));
            same(0, "set", 0, 20 + below(31));
            same(0, "set", 2, 1 + below(6));
        }
        if (kind == 1 || kind == 3) {
            for (int times = 0; times < 7; times++) {
                same(0, "pass", 150 + below(51));
            }
        }
    }

    private int below(int bound) {
        seed = seed * 6364136223846793005L + 1442695040888963407L;
        return (int) ((seed >>> 33) % bound);
    }

    private String nextName() {
        String[] names = {
            "pass", "pass", "pass", "kick", "kick", "move", "move", "wind", "speed", "give", "set", "set", "text", "text",
            "append", "clearBuffer", "firstError", "obey", "keep", "goBack", "undo", "undo", "clock", "clock", "clock",
            "pair", "pair", "beam", "beam", "count", "count", "setting", "ifPassed", "ifPassed", "lockedIn", "lockedIn",
            "bestGive", "nextStrike", "stepShare", "meanGap"};
        String name = names[below(names.length)];
        if (!name.equals("text")) {
            return name;
        }
        writeText();
        return below(3) == 0 ? "firstError" : "obey";
    }

    private void writeText() {
        if (below(3) > 0) {
            same(-1, "clearBuffer");
        }
        StringBuilder text = new StringBuilder();
        int parts = below(6) == 0 ? 16 : 1 + below(4);
        for (int part = 0; part < parts; part++) {
            text.append(part == 0 ? "" : ";").append(PARTS[below(PARTS.length)]);
        }
        if (below(4) == 0) {
            text.setCharAt(below(text.length()), SIGNS.charAt(below(SIGNS.length())));
        }
        for (int at = 0; at < text.length(); at++) {
            same(-1, "append", (int) text.charAt(at));
        }
    }

    private int argument(String name, int place) {
        if (below(25) == 0) {
            return ODD[below(ODD.length)];
        }
        switch (name + place) {
            case "pass0":
            case "ifPassed0":
                return 1 + below(below(3) == 0 ? 200 : 25);
            case "kick1":
                return below(1001) - 500;
            case "move1":
            case "give0":
            case "set0":
            case "beam0":
            case "setting0":
            case "bestGive0":
                return below(3);
            case "speed1":
                return below(2) == 0 ? 30 + below(3) : 10 + below(51);
            case "give1":
                return below(21);
            case "set1":
                return below(2) == 0 ? below(51) : below(201);
            case "append0":
                return below(3) == 0 ? 33 + below(94) : SIGNS.charAt(below(SIGNS.length()));
            case "clock1":
                return below(11);
            case "pair2":
            case "ifPassed2":
                return below(3);
            case "beam1":
                return below(5);
            case "count0":
                return below(10);
            default:
                return below(8);
        }
    }

    /** Makes the call on both, but the last one is a digest, and what comes behind the 512th is free. */
    private boolean same(int run, String next, Object... given) {
        if (told.size() >= CALLS) {
            return true;
        }
        boolean last = told.size() == CALLS - 1;
        String name = last ? "digest" : next;
        Object[] arguments = last ? new Object[0] : given;
        told.add(name + java.util.Arrays.toString(arguments));
        String got = answer(ofClass.get(name), x, arguments);
        String want = answer(ofModel.get(name), model, arguments);
        Checks.due("answer", 0, 0);
        if (!got.equals(want)) {
            Checks.tell("run " + run + ", " + told + ": answered " + got + ", due is " + want);
            return false;
        }
        return true;
    }

    private static String answer(Method method, Object on, Object[] arguments) {
        try {
            return String.valueOf(method.invoke(on, arguments));
        } catch (InvocationTargetException e) {
            return "throws." + e.getCause().getClass().getSimpleName();
        } catch (IllegalAccessException e) {
            return "no access";
        }
    }
}
