import java.io.IOException;
import java.nio.file.DirectoryStream;
import java.nio.file.Files;
import java.nio.file.Path;
import java.util.ArrayList;
import java.util.Arrays;
import java.util.List;
import java.util.Set;
import java.util.regex.Matcher;
import java.util.regex.Pattern;

/**
 * Reads the document from its first line to its last: all of its words are in a sentence that some test holds
 * (Bounds.hold), in the face and the lines of calls that FaceTest compares, or in what the document leaves free.
 */
public final class ReadingTest {
    private static final Pattern HOLD = Pattern.compile("Bounds\\.hold\\((TERMS|OPENING|\"[^\"]*\"), \"((?:[^\"\\\\]|\\\\.)*)\"\\);");
    private static final Pattern FACE = Pattern.compile("```java\\n.*?\\n```\\n", Pattern.DOTALL);
    private static final Pattern LINE_OF_CALL = Pattern.compile("(?m)^`[^`]*`: ");
    private static final Set<String> FREE = Set.of(
        "what later calls answer is free.",
        "How the state is held inside the object is free, as are the speed of each call, the text of toString and the behaviour of equals and hashCode. Use of one object from several threads at once is not promised to be safe. Nothing is promised beyond the answers and state changes described above, and nothing about an object after its 512th call.");
    private static final Set<String> HEADINGS = Set.of("Clocks, beams", "Locked clocks, groups");
    private static final Set<String> JOINING = Set.of("or", "what", "The constants");

    private final List<String> sections = new ArrayList<>();
    private final List<String> sentences = new ArrayList<>();
    private int free = 0;

    public static void main(String[] args) throws IOException {
        ReadingTest reading = new ReadingTest();
        reading.collect();
        Checks.due("many sentences are held", reading.sentences.size() > 200 ? 1 : 0, 1);
        String document = Files.readString(Path.of("../shared/DOC.md"));
        Checks.due("it begins with the title", document.indexOf("# TandemClocks\n\n## "), 0);
        int parts = 0;
        for (String section : document.substring(document.indexOf("## ") + 3).split("\n## ")) {
            reading.read(section);
            parts++;
        }
        Checks.due("sections", parts, 4 + 27);
        Checks.due("what is left free", reading.free, FREE.size());
        Checks.end("ReadingTest");
    }

    private void collect() throws IOException {
        try (DirectoryStream<Path> files = Files.newDirectoryStream(Path.of("src/test/java"), "*Test.java")) {
            for (Path file : files) {
                Matcher m = HOLD.matcher(Files.readString(file));
                while (m.find()) {
                    String section = m.group(1).replace("TERMS", "Terms").replace("OPENING", "What it is").replace("\"", "");
                    sections.add(section);
                    sentences.add(m.group(2).replace("\\\"", "\""));
                }
            }
        }
    }

    private void read(String section) {
        String heading = section.substring(0, section.indexOf('\n'));
        String name = heading.startsWith("Promise") ? heading.substring(0, heading.indexOf(':')) : heading;
        String text = section.substring(section.indexOf('\n'));
        text = LINE_OF_CALL.matcher(FACE.matcher(text).replaceAll("")).replaceAll("");
        boolean[] held = new boolean[text.length()];
        for (int at = 0; at < sentences.size(); at++) {
            if (sections.get(at).equals(name)) {
                mark(held, text, sentences.get(at));
            }
        }
        for (String rest : restOf(held, text)) {
            dueHeld(name, rest);
        }
    }

    private static void mark(boolean[] held, String text, String sentence) {
        for (int start = text.indexOf(sentence); start >= 0; start = text.indexOf(sentence, start + 1)) {
            Arrays.fill(held, start, start + sentence.length(), true);
        }
    }

    /** What no test holds, in one piece each as far as it goes on one line. */
    private static List<String> restOf(boolean[] held, String text) {
        StringBuilder rest = new StringBuilder();
        for (int at = 0; at < text.length(); at++) {
            rest.append(held[at] ? '\n' : text.charAt(at));
        }
        return List.of(rest.toString().split("\n"));
    }

    private void dueHeld(String name, String rest) {
        String words = rest.replaceAll("^[\\s;:,.()`-]+", "").replaceAll("[\\s;:,(`]+$", "");
        boolean isFree = FREE.contains(words);
        free += isFree ? 1 : 0;
        boolean isJoining = words.isEmpty() || words.startsWith("### ") || HEADINGS.contains(words) || JOINING.contains(words);
        Checks.due(name + ", held by no test: '" + words + "'", isFree || isJoining ? 1 : 0, 1);
    }
}
