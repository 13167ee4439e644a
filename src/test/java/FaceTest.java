import java.io.IOException;
import java.lang.management.ManagementFactory;
import java.lang.reflect.Constructor;
import java.lang.reflect.Field;
import java.lang.reflect.Method;
import java.lang.reflect.Modifier;
import java.nio.file.Files;
import java.nio.file.Path;
import java.util.ArrayList;
import java.util.Arrays;
import java.util.List;
import java.util.TreeSet;
import java.util.regex.Matcher;
import java.util.regex.Pattern;

/** The public face of the document, the words that LANGUAGE.md leaves, and the room that calls take. */
public final class FaceTest {
    private static final Path SOURCE = Path.of("src/main/java/TandemClocks.java");
    private static final Path DOCUMENT = Path.of("../shared/DOC.md");
    private static final Pattern METHOD = Pattern.compile("public (\\w+) (\\w+)\\(([^)]*)\\)(?: throws ([^;]*))?;");

    private static final String[] FORBIDDEN = {
        "import ", "package ", "->", "::", "synchronized", "assert", "finally", "catch", "Exact(", "Double.", "Float.",
        "Object ", "String.", "System.out", "Thread", "static {", "@"};

    private static String source;
    private static String document;

    public static void main(String[] args) throws IOException {
        source = Files.readString(SOURCE);
        document = Files.readString(DOCUMENT);
        theFaceAsItIsWritten();
        headingsOfTheInterface();
        numbersAreIntegers();
        theFace();
        namesOfTheFaceAreItsOwn();
        theLanguage();
        theForm();
        theRoom();
        Checks.under("");
        Checks.end("FaceTest");
    }

    // ---- the face

    /** The lines of the document's face between the first one, which opens the class, and the last one. */
    private static List<String> linesOfFace() {
        int start = document.indexOf("```java\n", document.indexOf("\n## The public face\n")) + "```java\n".length();
        String[] lines = document.substring(start, document.indexOf("\n```", start)).split("\n");
        return new ArrayList<>(Arrays.asList(lines).subList(1, lines.length - 1));
    }

    /** The class has each line of the face, in the order of the document, and each promise has the same line. */
    private static void theFaceAsItIsWritten() {
        List<String> lines = linesOfFace();
        Checks.due("lines of the face", lines.size(), 28);
        Checks.due("the class line", source.indexOf("public final class TandemClocks {") >= 0 ? 1 : 0, 1);
        int behind = 0;
        for (int at = 0; at < lines.size(); at++) {
            String line = lines.get(at);
            boolean constant = line.contains("=");
            int found = source.indexOf("\n" + line.replace(";", constant ? ";\n" : " {\n"), behind);
            Checks.due("the class has, in its order, '" + line + "'", found >= behind ? 1 : 0, 1);
            behind = Math.max(behind, found);
            if (!constant) {
                dueSignature(at, line.trim().replace("public ", "").replace(";", ""));
            }
        }
    }

    private static void dueSignature(int promise, String signature) {
        int start = document.indexOf("\n## Promise " + promise + ": ");
        String told = document.substring(document.indexOf("\n\n", start) + 2, document.length());
        Checks.due("promise " + promise + " tells of " + signature, told.startsWith("`" + signature + "`: ") ? 1 : 0, 1);
    }

    private static void headingsOfTheInterface() {
        Bounds.hold("Terms", "Ahead of the calls `pass`, `kick`, `move`, `wind`, `speed`, `give`, `set` the interface says: ---- changes.");
        dueHeading("changes", "TandemClocks()", "pass", "kick", "move", "wind", "speed", "give", "set");
        Bounds.hold("Terms", "Ahead of the calls `append`, `clearBuffer`, `firstError`, `obey`, `keep`, `goBack`, `undo` the interface says: ---- texts, the snapshot.");
        dueHeading("texts, the snapshot", "set", "append", "clearBuffer", "firstError", "obey", "keep", "goBack", "undo");
        Bounds.hold("Terms", "Ahead of the calls `clock`, `pair`, `beam`, `count`, `setting` the interface says: ---- looks; nothing is changed.");
        dueHeading("looks; nothing is changed", "undo", "clock", "pair", "beam", "count", "setting");
        Bounds.hold("Terms", "Ahead of the calls `ifPassed`, `lockedIn`, `bestGive`, `nextStrike`, `stepShare`, `meanGap`, `digest` the interface says: ---- what would be; nothing is changed.");
        dueHeading("what would be; nothing is changed", "setting", "ifPassed", "lockedIn", "bestGive", "nextStrike", "stepShare", "meanGap", "digest");
    }

    /** In the class the heading stands between the call before and these calls, with no other heading among them. */
    private static void dueHeading(String heading, String before, String... calls) {
        int at = source.indexOf("    // ---- " + heading + "\n");
        int next = source.indexOf("    // ---- ", at + 1);
        Checks.due("the heading behind " + before, at > source.indexOf(" " + before) ? 1 : 0, 1);
        for (String call : calls) {
            int place = source.indexOf(" " + call + "(");
            Checks.due(call + " stands under '" + heading + "'", at >= 0 && at < place && place < next ? 1 : 0, 1);
        }
    }

    private static void numbersAreIntegers() {
        Bounds.hold("Terms", "All numbers are integers, but for two shares.");
        TreeSet<String> shares = new TreeSet<>();
        for (Method method : TandemClocks.class.getDeclaredMethods()) {
            if (Modifier.isPublic(method.getModifiers())) {
                for (Class<?> type : method.getParameterTypes()) {
                    Checks.dueText("a parameter of " + method.getName(), type.getName(), "int");
                }
                if (method.getReturnType() != int.class && method.getReturnType() != long.class) {
                    shares.add(method.getReturnType() + " " + method.getName());
                }
            }
        }
        same("shares", shares, new TreeSet<>(List.of("double stepShare", "float meanGap")));
        Checks.under("");
    }

    private static TreeSet<String> methodsOfFace() {
        TreeSet<String> methods = new TreeSet<>();
        for (String line : linesOfFace()) {
            Matcher m = METHOD.matcher(line);
            if (m.find()) {
                String types = m.group(3).replaceAll("(\\w+) \\w+", "$1").replace(", ", ",");
                String thrown = m.group(4) == null ? "" : " " + m.group(4).replace(",", "");
                methods.add(m.group(1) + " " + m.group(2) + "(" + types + ")" + thrown);
            }
        }
        return methods;
    }

    private static void theFace() {
        TreeSet<String> got = new TreeSet<>();
        for (Method method : TandemClocks.class.getDeclaredMethods()) {
            if (!Modifier.isPrivate(method.getModifiers())) {
                got.add((Modifier.isPublic(method.getModifiers()) ? "" : "not public ") + told(method));
            }
        }
        same("methods", got, methodsOfFace());
        TreeSet<String> fields = new TreeSet<>();
        for (Field field : TandemClocks.class.getDeclaredFields()) {
            if (!Modifier.isPrivate(field.getModifiers())) {
                fields.add(Modifier.toString(field.getModifiers()) + " " + field.getType() + " " + field.getName());
            }
        }
        same("fields", fields, new TreeSet<>(List.of("public static final int NONE")));
        Constructor<?>[] made = TandemClocks.class.getDeclaredConstructors();
        Checks.due("constructors", made.length, 1);
        Checks.due("its parameters", made[0].getParameterCount(), 0);
        Checks.due("its public", made[0].getModifiers(), Modifier.PUBLIC);
        Checks.due("the class", TandemClocks.class.getModifiers(), Modifier.PUBLIC | Modifier.FINAL);
    }

    private static String told(Method method) {
        StringBuilder text = new StringBuilder(method.getReturnType() + " " + method.getName() + "(");
        for (Class<?> type : method.getParameterTypes()) {
            text.append(text.charAt(text.length() - 1) == '(' ? "" : ",").append(type);
        }
        text.append(")");
        for (Class<?> type : method.getExceptionTypes()) {
            text.append(" ").append(type.getSimpleName());
        }
        return text.toString();
    }

    private static void same(String what, TreeSet<String> got, TreeSet<String> want) {
        Checks.due(what, 0, 0);
        if (!got.equals(want)) {
            Checks.tell(what + ": " + got + ", due are " + want);
        }
    }

    private static void namesOfTheFaceAreItsOwn() {
        List<String> names = new ArrayList<>();
        for (String method : methodsOfFace()) {
            names.add(method.substring(method.indexOf(' ') + 1, method.indexOf('(')));
        }
        for (Class<?> inner : TandemClocks.class.getDeclaredClasses()) {
            Checks.due(inner + " is static", inner.getModifiers() & Modifier.STATIC, Modifier.STATIC);
            for (Method method : inner.getDeclaredMethods()) {
                Checks.due(inner + " has " + method.getName(), names.contains(method.getName()) ? 1 : 0, 0);
            }
        }
        for (Method method : TandemClocks.class.getDeclaredMethods()) {
            boolean ofFace = names.contains(method.getName());
            Checks.due(method.getName(), ofFace == Modifier.isPublic(method.getModifiers()) ? 0 : 1, 0);
        }
    }

    // ---- LANGUAGE.md

    private static void theLanguage() {
        for (String word : FORBIDDEN) {
            Checks.due("'" + word + "' in the class", source.indexOf(word), -1);
        }
        for (int at = 0; at < source.length(); at++) {
            if (source.charAt(at) > 126) {
                Checks.tell("a sign above 126 at " + at);
            }
        }
    }

    /** Rule 11, but for the depth of calls: parameters, classes, their fields, and the lines of a method. */
    private static void theForm() {
        List<Class<?>> classes = new ArrayList<>(List.of(TandemClocks.class));
        classes.addAll(Arrays.asList(TandemClocks.class.getDeclaredClasses()));
        dueAtMost("classes", classes.size(), 12);
        for (Class<?> type : classes) {
            long fields = Arrays.stream(type.getDeclaredFields()).filter(f -> !Modifier.isStatic(f.getModifiers())).count();
            dueAtMost("fields of " + type, fields, 20);
            for (Method method : type.getDeclaredMethods()) {
                dueAtMost("parameters of " + method, method.getParameterCount(), 7);
            }
        }
        linesOfMethods();
    }

    /** Methods open and close at four spaces, those of the classes inside at eight. */
    private static void linesOfMethods() {
        String indent = "    ";
        int opened = 0;
        int methods = 0;
        String[] lines = source.split("\n");
        for (int at = 0; at < lines.length; at++) {
            if (lines[at].matches("    private static final class \\w+ \\{")) {
                indent = "        ";
            } else if (lines[at].matches(indent + "\\w.*\\).* \\{")) {
                opened = at;
            } else if (lines[at].equals(indent + "}")) {
                methods++;
                dueAtMost("lines of the method at line " + (opened + 1), at - opened + 1, 60);
            } else if (lines[at].equals("    }")) {
                indent = "    ";
            }
        }
        Checks.due("many methods are seen", methods > 100 ? 1 : 0, 1);
    }

    private static void dueAtMost(String what, long got, long most) {
        Checks.due(what + ": " + got + ", at most " + most + " are right", got <= most ? 1 : 0, 1);
    }

    // ---- the room

    /** The dearest calls make next to nothing, as all rows are made by the constructor. */
    private static void theRoom() {
        com.sun.management.ThreadMXBean threads = (com.sun.management.ThreadMXBean) ManagementFactory.getThreadMXBean();
        TandemClocks[] all = new TandemClocks[10];
        for (int at = 0; at < all.length; at++) {
            all[at] = new TandemClocks();
            callAll(all[at]);
        }
        long before = threads.getCurrentThreadAllocatedBytes();
        for (TandemClocks x : all) {
            for (int times = 0; times < 50; times++) {
                callAll(x);
            }
        }
        long made = threads.getCurrentThreadAllocatedBytes() - before;
        Checks.due("made many bytes: " + made, made > 64 * 1024 ? 1 : 0, 0);
    }

    /** Ten calls. */
    private static void callAll(TandemClocks x) {
        x.append('t');
        x.append('9');
        x.obey();
        x.kick(0, 5);
        x.keep();
        x.goBack();
        x.undo();
        x.bestGive(1);
        x.lockedIn(0, 3);
        x.digest();
    }
}
