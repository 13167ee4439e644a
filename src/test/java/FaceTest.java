import java.io.IOException;
import java.lang.management.ManagementFactory;
import java.lang.reflect.Constructor;
import java.lang.reflect.Field;
import java.lang.reflect.Method;
import java.lang.reflect.Modifier;
import java.nio.file.Files;
import java.nio.file.Path;
import java.util.ArrayList;
import java.util.Arrays;
import java.util.List;
import java.util.TreeSet;

/** The public face of the document, the words that LANGUAGE.md leaves, and the room that calls take. */
public final class FaceTest {
    private static final String[] FACE = {
        "int pass(int) IllegalArgumentException",
        "int kick(int,int) IndexOutOfBoundsException IllegalArgumentException",
        "int move(int,int) IndexOutOfBoundsException IllegalStateException",
        "int wind(int) IndexOutOfBoundsException",
        "int speed(int,int) IndexOutOfBoundsException IllegalArgumentException",
        "int give(int,int) IndexOutOfBoundsException IllegalArgumentException",
        "int set(int,int) IndexOutOfBoundsException IllegalArgumentException",
        "int append(int) IllegalArgumentException IllegalStateException",
        "int clearBuffer()",
        "int firstError()",
        "int obey() IllegalArgumentException",
        "int keep()",
        "int goBack() IllegalStateException",
        "int undo() IllegalStateException",
        "int clock(int,int) IndexOutOfBoundsException IllegalArgumentException",
        "int pair(int,int,int) IndexOutOfBoundsException IllegalArgumentException",
        "int beam(int,int) IndexOutOfBoundsException IllegalArgumentException",
        "int count(int) IllegalArgumentException",
        "int setting(int) IndexOutOfBoundsException",
        "int ifPassed(int,int,int) IndexOutOfBoundsException IllegalArgumentException",
        "int lockedIn(int,int) IndexOutOfBoundsException",
        "int bestGive(int) IndexOutOfBoundsException",
        "int nextStrike()",
        "double stepShare()",
        "float meanGap()",
        "long digest()"};

    private static final String[] FORBIDDEN = {
        "import ", "package ", "->", "::", "synchronized", "assert", "finally", "catch", "Exact(", "Double.", "Float.",
        "Object ", "String.", "System.out", "Thread", "static {", "@"};

    public static void main(String[] args) throws IOException {
        theFace();
        namesOfTheFaceAreItsOwn();
        theLanguage();
        theRoom();
        Checks.end("FaceTest");
    }

    private static void theFace() {
        TreeSet<String> got = new TreeSet<>();
        for (Method method : TandemClocks.class.getDeclaredMethods()) {
            if (!Modifier.isPrivate(method.getModifiers())) {
                got.add((Modifier.isPublic(method.getModifiers()) ? "" : "not public ") + told(method));
            }
        }
        same("methods", got, new TreeSet<>(Arrays.asList(FACE)));
        TreeSet<String> fields = new TreeSet<>();
        for (Field field : TandemClocks.class.getDeclaredFields()) {
            if (!Modifier.isPrivate(field.getModifiers())) {
                fields.add(Modifier.toString(field.getModifiers()) + " " + field.getType() + " " + field.getName());
            }
        }
        same("fields", fields, new TreeSet<>(List.of("public static final int NONE")));
        Constructor<?>[] made = TandemClocks.class.getDeclaredConstructors();
        Checks.due("constructors", made.length, 1);
        Checks.due("its parameters", made[0].getParameterCount(), 0);
        Checks.due("its public", made[0].getModifiers(), Modifier.PUBLIC);
        Checks.due("the class", TandemClocks.class.getModifiers(), Modifier.PUBLIC | Modifier.FINAL);
    }

    private static String told(Method method) {
        StringBuilder text = new StringBuilder(method.getReturnType() + " " + method.getName() + "(");
        for (Class<?> type : method.getParameterTypes()) {
            text.append(text.charAt(text.length() - 1) == '(' ? "" : ",").append(type);
        }
        text.append(")");
        for (Class<?> type : method.getExceptionTypes()) {
            text.append(" ").append(type.getSimpleName());
        }
        return text.toString();
    }

    private static void same(String what, TreeSet<String> got, TreeSet<String> want) {
        Checks.due(what, 0, 0);
        if (!got.equals(want)) {
            Checks.tell(what + ": " + got + ", due are " + want);
        }
    }

    private static void namesOfTheFaceAreItsOwn() {
        List<String> names = new ArrayList<>();
        for (String method : FACE) {
            names.add(method.substring(method.indexOf(' ') + 1, method.indexOf('(')));
        }
        for (Class<?> inner : TandemClocks.class.getDeclaredClasses()) {
            Checks.due(inner + " is static", inner.getModifiers() & Modifier.STATIC, Modifier.STATIC);
            for (Method method : inner.getDeclaredMethods()) {
                Checks.due(inner + " has " + method.getName(), names.contains(method.getName()) ? 1 : 0, 0);
            }
        }
        for (Method method : TandemClocks.class.getDeclaredMethods()) {
            boolean ofFace = names.contains(method.getName());
            Checks.due(method.getName(), ofFace == Modifier.isPublic(method.getModifiers()) ? 0 : 1, 0);
        }
    }

    private static void theLanguage() throws IOException {
        String source = Files.readString(Path.of("src/main/java/TandemClocks.java"));
        for (String word : FORBIDDEN) {
            Checks.due("'" + word + "' in the class", source.indexOf(word), -1);
        }
        for (int at = 0; at < source.length(); at++) {
            if (source.charAt(at) > 126) {
                Checks.tell("a sign above 126 at " + at);
            }
        }
    }

    /** The dearest calls make next to nothing, as all rows are made by the constructor. */
    private static void theRoom() {
        com.sun.management.ThreadMXBean threads = (com.sun.management.ThreadMXBean) ManagementFactory.getThreadMXBean();
        TandemClocks[] all = new TandemClocks[10];
        for (int at = 0; at < all.length; at++) {
            all[at] = new TandemClocks();
            callAll(all[at]);
        }
        long before = threads.getCurrentThreadAllocatedBytes();
        for (TandemClocks x : all) {
            for (int times = 0; times < 50; times++) {
                callAll(x);
            }
        }
        long made = threads.getCurrentThreadAllocatedBytes() - before;
        Checks.due("made many bytes: " + made, made > 64 * 1024 ? 1 : 0, 0);
    }

    /** Ten calls. */
    private static void callAll(TandemClocks x) {
        x.append('t');
        x.append('9');
        x.obey();
        x.kick(0, 5);
        x.keep();
        x.goBack();
        x.undo();
        x.bestGive(1);
        x.lockedIn(0, 3);
        x.digest();
    }
}
