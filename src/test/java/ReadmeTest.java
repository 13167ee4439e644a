import java.io.File;
import java.io.IOException;
import java.nio.charset.StandardCharsets;
import java.nio.file.DirectoryStream;
import java.nio.file.Files;
import java.nio.file.Path;
import java.util.ArrayList;
import java.util.List;
import java.util.TreeSet;
import java.util.regex.Matcher;
import java.util.regex.Pattern;

/** Each example of README.md holds as it is written: programs, commands, and calls with their answers behind them. */
public final class ReadmeTest {
    private static final Path CLASS = Path.of("src/main/java/TandemClocks.java");
    private static final Path TESTS = Path.of("src/test/java");
    private static final Pattern BLOCK = Pattern.compile("```(\\w+)\n(.*?)```", Pattern.DOTALL);
    private static final Pattern CALL = Pattern.compile("\\s*(x\\.(\\w+)\\(.*\\));(?:\\s+// (throws )?([^\\s:]+)(?:: .*)?)?");

    private final List<String> programs = new ArrayList<>();
    private final List<String> calls = new ArrayList<>();
    private final List<String> commands = new ArrayList<>();
    private final List<String> prints = new ArrayList<>();
    private final TreeSet<String> named = new TreeSet<>();

    public static void main(String[] args) throws IOException, InterruptedException {
        String readme = Files.readString(Path.of("README.md"));
        ReadmeTest test = new ReadmeTest();
        test.collect(readme);
        test.program();
        test.answers();
        test.allCallsAreNamed();
        test.testsAreNamed(readme);
        test.oneTestAlone();
        Checks.end("ReadmeTest");
    }

    private void collect(String readme) {
        Matcher m = BLOCK.matcher(readme);
        while (m.find()) {
            List<String> kind = calls;
            switch (m.group(1)) {
                case "sh":
                    kind = commands;
                    break;
                case "text":
                    kind = prints;
                    break;
                default:
                    kind = m.group(2).contains("class Example") ? programs : calls;
            }
            kind.add(m.group(2));
        }
        Checks.due("programs", programs.size(), 1);
        Checks.due("what they print", prints.size(), 1);
        Checks.due("blocks of commands", commands.size(), 2);
        Checks.due("blocks of calls", calls.size(), 5);
    }

    // ---- the program

    private void program() throws IOException, InterruptedException {
        Checks.dueText("the program prints", runBeside("Example", programs.get(0), commands.get(0)), prints.get(0));
    }

    /** What the commands print where the class and this one are. */
    private static String runBeside(String name, String text, String commands) throws IOException, InterruptedException {
        Path place = Files.createTempDirectory("readme");
        Files.copy(CLASS, place.resolve("TandemClocks.java"));
        Files.writeString(place.resolve(name + ".java"), text);
        String printed = run(place, commands);
        delete(place.toFile());
        return printed;
    }

    private static void delete(File file) {
        File[] inside = file.listFiles();
        for (File part : inside == null ? new File[0] : inside) {
            delete(part);
        }
        file.delete();
    }

    /** What the commands print, ahead of their exit code if it is not 0. */
    private static String run(Path place, String commands) throws IOException, InterruptedException {
        ProcessBuilder shell = new ProcessBuilder("sh", "-e", "-c", commands).directory(place.toFile());
        Process process = shell.redirectError(ProcessBuilder.Redirect.INHERIT).start();
        String printed = new String(process.getInputStream().readAllBytes(), StandardCharsets.UTF_8);
        int code = process.waitFor();
        return code == 0 ? printed : printed + "exit code " + code;
    }

    // ---- calls with their answers

    /** Each block becomes a method in which a call with an answer prints both; all else stays as it is written. */
    private void answers() throws IOException, InterruptedException {
        StringBuilder text = new StringBuilder("public final class Answers {\n");
        for (int at = 0; at < calls.size(); at++) {
            text.append("static void block").append(at).append("() {\n").append(withChecks(calls.get(at))).append("}\n");
        }
        text.append("public static void main(String[] args) {\n");
        for (int at = 0; at < calls.size(); at++) {
            text.append("block").append(at).append("();\n");
        }
        text.append("System.out.print(\"all were asked\");\n}\n}\n");
        String printed = runBeside("Answers", text.toString(), "javac TandemClocks.java Answers.java\njava Answers");
        Checks.dueText("the calls answer", printed, "all were asked");
    }

    private String withChecks(String block) {
        StringBuilder text = new StringBuilder();
        for (String line : block.split("\n")) {
            Matcher m = CALL.matcher(line);
            if (m.matches()) {
                named.add(m.group(2));
            }
            if (!m.matches() || m.group(4) == null) {
                Checks.due("a line without an answer, '" + line + "', has no comment", line.indexOf("//"), -1);
                text.append(line).append('\n');
            } else {
                Checks.due("an answer", 0, 0);
                text.append(m.group(3) == null ? answering(m.group(1), m.group(4)) : throwing(m.group(1), m.group(4)));
            }
        }
        return text.toString();
    }

    private static String answering(String call, String answer) {
        return "{ var got = " + call + "; if (got != " + answer + ") System.out.println(\"" + call + " answered \" + got); }\n";
    }

    private static String throwing(String call, String exception) {
        return "try { " + call + "; System.out.println(\"" + call + " threw nothing\"); } catch (" + exception + " e) {"
                + " if (e.getClass() != " + exception + ".class) System.out.println(\"" + call + " threw \" + e); }\n";
    }

    private void allCallsAreNamed() {
        for (java.lang.reflect.Method method : TandemClocks.class.getDeclaredMethods()) {
            if (java.lang.reflect.Modifier.isPublic(method.getModifiers())) {
                Checks.due("an example of " + method.getName(), named.contains(method.getName()) ? 1 : 0, 1);
            }
        }
    }

    // ---- the tests

    private void testsAreNamed(String readme) throws IOException {
        TreeSet<String> tests = new TreeSet<>();
        try (DirectoryStream<Path> files = Files.newDirectoryStream(TESTS, "*Test.java")) {
            files.forEach(file -> tests.add(file.getFileName().toString().replace(".java", "")));
        }
        TreeSet<String> told = new TreeSet<>();
        Matcher m = Pattern.compile("(?m)^\\| `(\\w+Test)` \\|").matcher(readme);
        while (m.find()) {
            told.add(m.group(1));
        }
        Checks.dueText("tests that are told", told.toString(), tests.toString());
    }

    /** In a copy of the project, as the commands leave a folder there. */
    private void oneTestAlone() throws IOException, InterruptedException {
        Path copy = Files.createTempDirectory("readme");
        for (Path folder : new Path[] {CLASS.getParent(), TESTS}) {
            Files.createDirectories(copy.resolve(folder));
            try (DirectoryStream<Path> files = Files.newDirectoryStream(folder, "*.java")) {
                for (Path file : files) {
                    Files.copy(file, copy.resolve(file));
                }
            }
        }
        String printed = run(copy, commands.get(1));
        delete(copy.toFile());
        Checks.due("one test alone prints '" + printed + "'", printed.matches("TextTest: \\d+ checks, 0 wrong\n") ? 1 : 0, 1);
    }
}
