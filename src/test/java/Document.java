import java.io.IOException;
import java.io.UncheckedIOException;
import java.nio.file.Files;
import java.nio.file.Path;
import java.util.ArrayList;
import java.util.List;
import java.util.regex.Matcher;
import java.util.regex.Pattern;

/** The words of the document, by which the tests of its boundary cases are named. */
final class Document {
    static final int PROMISES = 13;
    private static final String TEXT = read();

    private static String read() {
        try {
            return Files.readString(Path.of("../shared/DOC.md"));
        } catch (IOException e) {
            throw new UncheckedIOException(e);
        }
    }

    private static String section(String head) {
        int from = TEXT.indexOf("## " + head);
        if (from < 0) {
            throw new IllegalStateException("the document has no " + head);
        }
        int to = TEXT.indexOf("\n## ", from);
        return (to < 0 ? TEXT.substring(from) : TEXT.substring(from, to)).replaceAll("\\s+", " ");
    }

    /** The public face: what each member answers, its name and the types that it takes, as "boolean write(long,int)". */
    static List<String> face() {
        List<String> all = new ArrayList<>();
        Matcher member = Pattern.compile("public ([a-zA-Z]+ )?([a-zA-Z]+)\\(([^)]*)\\);").matcher(section("The public face"));
        while (member.find()) {
            String types = member.group(3).replaceAll(" \\w+(, |$)", "$1").replace(", ", ",");
            all.add((member.group(1) == null ? "" : member.group(1)) + member.group(2) + "(" + types + ")");
        }
        return all;
    }

    /** Whether the promise, or a term that it uses, has these words. */
    static boolean says(int promise, String words) {
        return section("Promise " + promise + ":").contains(words) || section("Terms").contains(words);
    }

    /** The clauses of a promise, without its head and the line of its face. */
    static List<String> clauses(int promise) {
        String text = section("Promise " + promise + ":");
        return parts(text.substring(text.indexOf("`: ") + 3));
    }

    /** The clauses of the terms. */
    static List<String> clausesOfTerms() {
        String text = section("Terms");
        return parts(text.substring("## Terms".length()));
    }

    private static List<String> parts(String text) {
        List<String> all = new ArrayList<>();
        // Of "1 .. 8" the points end nothing.
        for (String part : text.trim().split("(?<=[^.][.;:]) ")) {
            all.add(part);
        }
        return all;
    }
}
