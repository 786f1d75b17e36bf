import java.io.IOException;
import java.nio.file.Files;
import java.nio.file.Path;
import java.util.ArrayList;
import java.util.List;
import java.util.regex.Matcher;
import java.util.regex.Pattern;
import java.util.stream.Stream;

/** Each clause of each promise, and each clause of the terms that has a boundary in it, is named by a test of boundary cases. */
public final class EdgesListTest {
    private static final Checks CHECKS = new Checks();
    private static final Pattern SAYS = Pattern.compile("\\.says\\((\\d+), (?:\"([^\"]*)\"|([A-Z]+))\\)");
    private static final Pattern BOUNDARY = Pattern.compile("at most|at least|less than|fewer|more than|WRONG|above|below|of the same|"
        + "rounded|empty|if there is|when there|all are the same|if it is|above 3|TOO FAR|up to|at first|none|alone|too much|lack|counts for nothing");
    /** What no call can come to, and what a clause that is named says more exactly. */
    private static final List<String> NOT_REACHED = List.of(
        // Four streams are for 1024 to 8,000 literals of at most 11 bits each.
        "They are there only when n is 3 * c at least, and none of the three has more than 65535 bytes.",
        // DATA has 16,000 bytes at most, and a row, or a block, 8,000.
        "its LENGTH is how many, at most 131,074.",
        "MOST OF A BLOCK is 131072, or the WINDOW if that is less.",
        "(n is at most MOST OF A BLOCK.) LITERALS:",
        // Heads of frames and streams of literals are written, never read.
        "Reading it, what is looked at are always the T highest bits below what was read (bits below the first one are 0):",
        "64 * f + 32 (SINGLE) + 16 (counts for nothing) + 8 (must not be) + 4 (SUMMED) + g.",
        "An ID of 0, 1, 2 or 4 bytes for g 0 .. 3 (0 with none).");

    public static void main(String[] args) throws IOException {
        List<List<String>> named = new ArrayList<>();
        List<String> all = new ArrayList<>();
        for (int promise = 0; promise <= Document.PROMISES; promise++) {
            named.add(new ArrayList<>());
        }
        try (Stream<Path> files = Files.list(Path.of("src/test/java"))) {
            for (Path file : (Iterable<Path>) files::iterator) {
                if (file.getFileName().toString().startsWith("Edges")) {
                    collect(Files.readString(file).replaceAll("\"\\s*\\+ \"", ""), named, all);
                }
            }
        }
        for (int promise = 1; promise <= Document.PROMISES; promise++) {
            CHECKS.due("promise " + promise + " has a test of boundary cases", named.get(promise).isEmpty(), false);
            for (String clause : Document.clauses(promise)) {
                CHECKS.due("promise " + promise + ": \"" + clause + "\" is named", isNamed(clause, named.get(promise)), true);
            }
        }
        for (String clause : Document.clausesOfTerms()) {
            if (BOUNDARY.matcher(clause).find() && !NOT_REACHED.contains(clause)) {
                CHECKS.due("terms: \"" + clause + "\" is named", isNamed(clause, all), true);
            }
        }
        CHECKS.end();
    }

    private static void collect(String source, List<List<String>> named, List<String> all) {
        Matcher says = SAYS.matcher(source);
        while (says.find()) {
            String words = says.group(2) != null ? says.group(2) : constant(source, says.group(3));
            named.get(Integer.parseInt(says.group(1))).add(words);
            all.add(words);
        }
    }

    private static String constant(String source, String name) {
        Matcher text = Pattern.compile("String " + name + " = \"([^\"]*)\"").matcher(source);
        if (!text.find()) {
            throw new IllegalStateException("no text " + name);
        }
        return text.group(1);
    }

    private static boolean isNamed(String clause, List<String> named) {
        for (String words : named) {
            if (words.contains(clause) || clause.contains(words)) {
                return true;
            }
        }
        return false;
    }
}
