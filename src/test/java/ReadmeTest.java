import java.io.ByteArrayOutputStream;
import java.io.IOException;
import java.io.PrintStream;
import java.net.URL;
import java.net.URLClassLoader;
import java.nio.charset.StandardCharsets;
import java.nio.file.Files;
import java.nio.file.Path;
import java.util.ArrayList;
import java.util.List;
import java.util.regex.Matcher;
import java.util.regex.Pattern;
import java.util.stream.Stream;
import javax.tools.ToolProvider;

/** README.md: its program prints what stands there, and what it names is there. */
public final class ReadmeTest {
    private static final Checks CHECKS = new Checks();
    private static final String PROGRAM = "Tour";

    public static void main(String[] args) throws Exception {
        String text = Files.readString(Path.of("README.md"));
        program(text);
        calls(text);
        names(text);
        CHECKS.end();
    }

    /** The blocks of this kind, without their fences. */
    private static List<String> blocks(String text, String kind) {
        List<String> all = new ArrayList<>();
        Matcher block = Pattern.compile("(?ms)^```" + kind + "\n(.*?)^```$").matcher(text);
        while (block.find()) {
            all.add(block.group(1));
        }
        return all;
    }

    private static void program(String text) throws Exception {
        List<String> programs = blocks(text, "java");
        CHECKS.due("one program", programs.size(), 1);
        String printed = text.substring(text.indexOf("and prints"));
        Path room = Files.createTempDirectory("readme");
        try {
            CHECKS.due("the program prints what README.md says", run(room, programs.get(0)).equals(blocks(printed, "text").get(0)), true);
        } finally {
            try (Stream<Path> files = Files.list(room)) {
                for (Path file : (Iterable<Path>) files::iterator) {
                    Files.delete(file);
                }
            }
            Files.delete(room);
        }
    }

    private static String run(Path room, String program) throws Exception {
        Path source = room.resolve(PROGRAM + ".java");
        Files.writeString(source, program);
        int answer = ToolProvider.getSystemJavaCompiler().run(null, null, null, "-encoding", "UTF-8",
            "-cp", System.getProperty("java.class.path"), "-d", room.toString(), source.toString());
        CHECKS.due("the program is compiled", answer, 0);
        ByteArrayOutputStream bytes = new ByteArrayOutputStream();
        PrintStream before = System.out;
        try (URLClassLoader loader = new URLClassLoader(new URL[] {room.toUri().toURL()});
                PrintStream out = new PrintStream(bytes, true, StandardCharsets.UTF_8)) {
            System.setOut(out);
            loader.loadClass(PROGRAM).getMethod("main", String[].class).invoke(null, (Object) new String[0]);
        } finally {
            System.setOut(before);
        }
        return bytes.toString(StandardCharsets.UTF_8).replace("\r\n", "\n");
    }

    /** Every call of the document's face has its row, with its promise and as many arguments, and is in the program. */
    private static void calls(String text) {
        List<String> face = Document.face();
        CHECKS.due("a constructor and twelve methods", face.size(), Document.PROMISES);
        String program = blocks(text, "java").get(0);
        for (int i = 0; i < face.size(); i++) {
            String call = face.get(i);
            boolean maker = i == 0;
            String name = maker ? "new StatePress" : call.substring(call.indexOf(' ') + 1, call.indexOf('('));
            int commas = call.length() - call.replace(",", "").length();
            String arguments = call.endsWith("()") ? "" : "\\w+(, \\w+){" + commas + "}";
            Pattern row = Pattern.compile("(?m)^\\| `" + name + "\\(" + arguments + "\\)` \\(" + (i + 1) + "\\) \\|");
            CHECKS.due(call + " has its row", row.matcher(text).find(), true);
            CHECKS.due(call + " is in the program", program.contains((maker ? "" : "press.") + name + "("), true);
        }
    }

    /** Tests and what they share are named, and what is named is there. */
    private static void names(String text) throws IOException {
        List<String> there = new ArrayList<>();
        try (Stream<Path> files = Files.list(Path.of("src/test/java"))) {
            files.forEach(file -> there.add(file.getFileName().toString().replace(".java", "")));
        }
        for (String name : there) {
            boolean edges = name.startsWith("Edges") && text.contains("`Edges*Test`");
            CHECKS.due(name + " is named", edges || text.contains("`" + name + "`"), true);
        }
        // The names of the tests under ../shared are not this project's.
        Matcher named = Pattern.compile("`([A-Z][a-z]\\w+)`|java -cp build (\\w+Test)").matcher(text);
        while (named.find()) {
            String name = named.group(1) != null ? named.group(1) : named.group(2);
            boolean other = name.startsWith("StatePress") || name.equals(PROGRAM);
            CHECKS.due(name + " is there", other || there.contains(name), true);
        }
        Matcher path = Pattern.compile("(?<![\\w/])(?:src|\\.ci)/[\\w./]*\\w").matcher(text);
        while (path.find()) {
            CHECKS.due(path.group() + " is there", Files.exists(Path.of(path.group())), true);
        }
        CHECKS.due(".ci/run can be run", Files.isExecutable(Path.of(".ci/run")), true);
    }
}
