import java.io.IOException;
import java.lang.reflect.Method;
import java.lang.reflect.Modifier;
import java.net.URL;
import java.net.URLClassLoader;
import java.nio.file.Files;
import java.nio.file.Path;
import java.util.ArrayList;
import java.util.List;
import java.util.TreeSet;
import java.util.regex.Matcher;
import java.util.regex.Pattern;
import java.util.stream.Collectors;
import java.util.stream.Stream;
import javax.tools.ToolProvider;

/**
 * What README.md shows compiles and answers as it says. Its java blocks become one program: a block
 * that begins with 'static' is a member of it, the lines of all others are one method, in which each
 * call with an answer is compared with what its comment says.
 */
public final class ReadmeTest {
    private static final Path README = Path.of("README.md");
    private static final Path TESTS = Path.of("src/test/java");
    private static final String PROGRAM = "ReadmeUse";
    /** A line that is one call, and behind it the answer, then perhaps a colon and what it means. */
    private static final Pattern TOLD = Pattern.compile("(\\w[\\w.]*\\(.*\\)); +// (NONE|true|false|-?\\d+)(:.*)?");
    private static final Pattern CALL = Pattern.compile("(?:\\w+\\.)?(\\w+)\\(.*");
    /** What answers nothing. */
    private static final List<String> SILENT = List.of("feed", "start");

    private static final List<String> members = new ArrayList<>();
    private static final List<String> lines = new ArrayList<>();
    private static int answers;
    private static int wrong;

    /** The program that is made calls this. */
    public static void due(int line, String call, Object got, String told) {
        answers++;
        String want = told.equals("NONE") ? "-1" : told;
        if (!String.valueOf(got).equals(want)) say("line " + line + ": " + call + " answers " + got + ", README.md says " + told);
    }

    private static void say(String what) {
        wrong++;
        System.out.println(what);
    }

    private static void takeBlocks(List<String> readme) {
        int begin = -1;
        for (int i = 0; i < readme.size(); i++) {
            String line = readme.get(i);
            if (begin < 0 && line.equals("```java")) {
                begin = i + 1;
            } else if (begin >= 0 && line.equals("```")) {
                takeBlock(readme.subList(begin, i), begin + 1);
                begin = -1;
            }
        }
        if (begin >= 0) say("line " + begin + ": a block without an end");
    }

    private static void takeBlock(List<String> block, int number) {
        if (block.get(0).startsWith("static ")) {
            members.addAll(block);
            return;
        }
        boolean inText = false;
        for (int i = 0; i < block.size(); i++) {
            boolean quotes = block.get(i).contains("\"\"\"");
            lines.add(inText || quotes ? block.get(i) : compared(block.get(i), number + i));
            inText ^= quotes;
        }
    }

    private static String compared(String line, int number) {
        Matcher told = TOLD.matcher(line);
        if (told.matches()) {
            String call = told.group(1);
            return "ReadmeTest.due(" + number + ", \"" + call.replace("\\", "\\\\").replace("\"", "\\\"") + "\", " + call
                + ", \"" + told.group(2) + "\");";
        }
        Matcher call = CALL.matcher(line);
        if (call.matches() && !SILENT.contains(call.group(1))) say("line " + number + ": no answer is told: " + line);
        return line;
    }

    private static String program() {
        return "final class " + PROGRAM + " {\n" + String.join("\n", members) + "\n    public static void main(String[] args) {\n"
            + String.join("\n", lines) + "\n    }\n}\n";
    }

    private static void run(Path room) throws Exception {
        Path file = Files.writeString(room.resolve(PROGRAM + ".java"), program());
        String path = System.getProperty("java.class.path");
        int end = ToolProvider.getSystemJavaCompiler().run(null, System.out, System.out, "-cp", path,
            "-d", room.toString(), file.toString());
        if (end != 0) {
            say("what README.md shows does not compile");
            return;
        }
        try (URLClassLoader loader = new URLClassLoader(new URL[] {room.toUri().toURL()})) {
            Method main = loader.loadClass(PROGRAM).getDeclaredMethod("main", String[].class);
            main.setAccessible(true);
            main.invoke(null, (Object) new String[0]);
        }
    }

    private static void runInRoom() throws Exception {
        Path room = Files.createTempDirectory("readme");
        try {
            run(room);
        } finally {
            try (Stream<Path> files = Files.list(room)) {
                for (Path p : files.collect(Collectors.toList())) Files.delete(p);
            }
            Files.delete(room);
        }
    }

    /** Every method of the face is used in a block. */
    private static void showsTheFace() {
        String code = program();
        for (Method m : GateField.class.getDeclaredMethods()) {
            boolean shown = code.contains("." + m.getName() + "(");
            if (Modifier.isPublic(m.getModifiers()) && !shown) say("README.md does not show " + m.getName());
        }
    }

    /** The list of tests names every file of theirs, and none that is not there. */
    private static void namesTheTests(String readme) throws IOException {
        TreeSet<String> there = new TreeSet<>();
        try (Stream<Path> files = Files.list(TESTS)) {
            files.forEach(p -> there.add(p.getFileName().toString().replace(".java", "")));
        }
        TreeSet<String> named = new TreeSet<>();
        Matcher names = Pattern.compile("`([A-Z]\\w+)`").matcher(readme.substring(readme.indexOf("## Tests")));
        while (names.find()) named.add(names.group(1));
        if (!named.equals(there)) say("README.md names the tests " + named + ", there are " + there);
        if (!Files.isExecutable(Path.of(".ci/run"))) say(".ci/run can't be run");
    }

    public static void main(String[] args) throws Exception {
        takeBlocks(Files.readAllLines(README));
        runInRoom();
        showsTheFace();
        namesTheTests(Files.readString(README));
        System.out.println(wrong + " wrong in README.md, " + answers + " answers compared");
        if (wrong > 0 || answers == 0) System.exit(1);
    }
}
