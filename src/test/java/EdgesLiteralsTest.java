import java.util.Arrays;
import java.util.List;
import java.util.Random;

/** The boundary cases of promise 9 in LITERALS: their numbers, heads and streams, and which way of telling them is taken. */
public final class EdgesLiteralsTest {
    private static final Checks CHECKS = new Checks();
    private static final PlainPress.Book NONE = new PlainPress.Book();

    public static void main(String[] args) {
        noLiterals();
        plainHeads();
        sameHeads();
        oneOrFour();
        fourParts();
        codesAsTheyWere();
        notTheSame();
        ways();
        keptByKindTwo();
        CHECKS.end();
    }

    /** The one block of the frame that press(flags, 3, 8000) makes, which must be right. */
    private static FrameReader.Block block(String name, StatePress x, byte[] row, PlainPress.Book book, int least) {
        PlainPress plain = new PlainPress();
        plain.book = book;
        plain.least = least;
        x.rule(2, least);
        Checks.feed(x, row);
        byte[] want = plain.press(row, 0, 3, 8000);
        CHECKS.due(name + ": press", x.press(0, 3, 8000), want.length);
        byte[] out = Checks.out(x);
        CHECKS.due(name + ": the frame", out, want);
        CHECKS.due(name + ": the content", FrameReader.content(out, book), row);
        List<FrameReader.Block> blocks = FrameReader.blocks(out, book);
        CHECKS.due(name + ": one block", blocks.size(), 1);
        FrameReader.Block block = blocks.get(0);
        CHECKS.due(name + ": kind 2", block.kind, 2);
        for (int k = 0; k < 4; k++) {
            CHECKS.due(name + ": about(" + (4 + k) + ")", x.about(4 + k), block.literalKind == k ? 1 : 0);
        }
        return block;
    }

    private static void noLiterals() {
        CHECKS.says(9, "when there are some and all are the same, one byte (k 1);");
        byte[] content = new Weaver(1).literals(400).row();
        StatePress x = new StatePress();
        Checks.feed(x, content);
        x.learn();
        for (int more = 0; more <= 2; more++) {
            byte[] row = PlainPress.join(Arrays.copyOfRange(content, 100, 200), Arrays.copyOf(Checks.bytes(1, 2), more));
            FrameReader.Block block = block(more + " literals", x, row, FrameReader.book(content), 3);
            CHECKS.due(more + " literals, their number", block.literals, more);
            CHECKS.due(more + " literals, k", block.literalKind, 0);
        }
        // Codes that are there tell no literals, too, but not in fewer bytes.
        Checks.feed(x, PlainPress.join(Books.MARK, Books.ID, Books.CODES, Books.SHARES, Books.LATEST, content));
        CHECKS.due("learn()", x.learn(), 400);
        PlainPress.Book book = FrameReader.book(content);
        book.lengths = new int[256];
        book.lengths[0] = 1;
        book.lengths[1] = 1;
        int[] points = {16, 16};
        Arrays.fill(book.tables, points);
        book.id = 7;
        FrameReader.Block block = block("no literals with codes", x, Arrays.copyOfRange(content, 100, 200), book, 3);
        CHECKS.due("no literals with codes, k", block.literalKind, 0);
    }

    private static void plainHeads() {
        CHECKS.says(9, "Heads for k 0 and 1: 1 byte for less than 32 literals, 2 for less than 4096, else 3.");
        int[] numbers = {2, 3, 30, 31, 32, 33, 255, 256, 4094, 4095, 4096, 4097, 7000};
        for (int n : numbers) {
            // Each byte as often as another one: codes are of no use.
            Weaver weaver = new Weaver(n);
            byte[] row = n < 100 ? weaver.literals(n).row() : even(n);
            byte[] all = PlainPress.join(row, n < 20 ? run(row, 100) : Arrays.copyOf(row, Math.min(n, 60)));
            FrameReader.Block block = block(n + " plain literals", new StatePress(), all, NONE, n < 20 ? 3 : 8);
            CHECKS.due(n + " plain literals, k", block.literalKind, 0);
            CHECKS.due(n + " plain literals, their number", block.literals, n);
            CHECKS.due(n + " plain literals, l", n < 32 ? block.literalShape % 2 == 0 ? 1 : 0 : block.literalShape, n < 32 ? 1 : n < 4096 ? 1 : 3);
        }
    }

    /** What follows a short row: itself again and again. */
    private static byte[] run(byte[] row, int n) {
        byte[] more = new byte[n];
        for (int i = 0; i < n; i++) {
            more[i] = row[i % row.length];
        }
        return more;
    }

    private static byte[] even(int n) {
        Random random = new Random(n);
        byte[] row = new byte[n];
        for (int i = 0; i < n; i++) {
            row[i] = (byte) (random.nextInt(64) * 4 + i % 4);
        }
        return row;
    }

    /** One and the same byte between parts of the dictionary. */
    private static void sameHeads() {
        CHECKS.says(9, "Heads for k 0 and 1: 1 byte for less than 32 literals, 2 for less than 4096, else 3.");
        byte[] content = new Weaver(7, 0, 255).literals(8000).row();
        StatePress x = new StatePress();
        Checks.feed(x, content);
        x.learn();
        for (int n : new int[] {1, 2, 3, 30, 31, 32, 33, 255, 256, 257, 900}) {
            byte[] row = new byte[6 * n + 40];
            for (int i = 0; i < row.length; i++) {
                row[i] = i < 6 * n ? i % 6 == 5 ? -1 : content[i / 6 * 7 + i % 6] : content[7000 + i - 6 * n];
            }
            FrameReader.Block block = block(n + " of the same", x, row, FrameReader.book(content), 5);
            CHECKS.due(n + " of the same, their number", block.literals, n);
            CHECKS.due(n + " of the same, k", block.literalKind, n == 1 ? 0 : 1);
            CHECKS.due(n + " of the same, l", block.literalShape % 2, n < 32 ? 0 : 1);
        }
    }

    /** Literals of which some are more frequent, so that codes are of use. */
    private static byte[] uneven(int n, int size) {
        byte[] row = new byte[n];
        Random random = new Random(n);
        for (int i = 0; i < n; i++) {
            row[i] = (byte) Math.min(random.nextInt(size), random.nextInt(size));
        }
        return row;
    }

    private static void oneOrFour() {
        CHECKS.says(9, "below 1024 literals one stream (l 0), there only when the bytes told are below 1024;"
            + " else four, with the least l from 1 on whose bits can tell both numbers.");
        for (int n : new int[] {400, 1000, 1021, 1022, 1023, 1024, 1025, 1026, 1027, 1028, 4095, 4096, 4097, 7999, 8000}) {
            FrameReader.Block block = block(n + " literals with codes", new StatePress(), uneven(n, 100), NONE, 8);
            CHECKS.due(n + " literals with codes, k", block.literalKind, 2);
            CHECKS.due(n + " literals with codes, l", block.literalShape, n < 1024 ? 0 : 2);
            CHECKS.due(n + " literals with codes, four streams", block.streams != null, n >= 1024);
        }
    }

    private static void fourParts() {
        CHECKS.says(9, "of n LITERALS each of the first three has n / 4, rounded up, the last one what is left.");
        CHECKS.says(9, "FOUR STREAMS of n symbols, c being n / 4 rounded up:");
        for (int n = 1024; n <= 1032; n++) {
            byte[] row = uneven(n, 60);
            FrameReader.Block block = block(n + " literals", new StatePress(), row, NONE, 8);
            CHECKS.due(n + " literals, no copies", block.sequences, 0);
            int[] counts = new int[256];
            for (byte one : row) {
                counts[one & 255]++;
            }
            int[] lengths = PlainPress.lengthsByCounts(counts, 11);
            int c = (n + 3) / 4;
            for (int i = 0; i < 4; i++) {
                int bits = 0;
                for (int j = i * c; j < Math.min(n, i * c + c); j++) {
                    bits += lengths[row[j] & 255];
                }
                // The END takes a bit, and a byte of its own when the bits fill theirs.
                CHECKS.due(n + " literals, stream " + i, block.streams[i], bits / 8 + 1);
            }
        }
        CHECKS.says(9, "then a 1, the END, and zeros up to the end of a byte.");
        int[] seen = new int[8];
        for (int n = 60; n < 160; n++) {
            // Two symbols of one bit each: the stream has n bits.
            byte[] row = bitsOf(n);
            FrameReader.Block block = block(n + " bits", new StatePress(), row, NONE, 8);
            if (block.sequences == 0 && block.literalKind == 2) {
                CHECKS.due(n + " bits, the block", block.size, 3 + 2 + n / 8 + 1 + 1);
                seen[n % 8]++;
            }
        }
        for (int i = 0; i < 8; i++) {
            CHECKS.due("bits % 8 of " + i + " are seen", seen[i] > 0, true);
        }
    }

    /** Zeros and ones of which no eight come twice. */
    private static byte[] bitsOf(int n) {
        for (int seed = 0;; seed++) {
            Random random = new Random(seed);
            byte[] row = new byte[n];
            boolean[] had = new boolean[256];
            int eight = 0;
            int at = 0;
            for (int tries = 0; at < n && tries < 4 * n; tries++) {
                int bit = random.nextInt(2);
                int next = (eight << 1 | bit) & 255;
                if (at >= 7 && had[next]) {
                    continue;
                }
                had[next] |= at >= 7;
                eight = next;
                row[at++] = (byte) bit;
            }
            if (at == n) {
                return row;
            }
        }
    }

    private static void codesAsTheyWere() {
        CHECKS.says(9, "the CODES as they were (k 3), when there are such and all literals have codes;");
        byte[] content = Checks.text("~~~~~~~~~~~~~~~~~~~~~~~~~~~~~~~~~~~~~~~~~~");
        // Codes for 1 and 3; what is another one has none, be it the first of all bytes or the last one.
        byte[] book = PlainPress.join(Books.MARK, Books.ID, Checks.bytes(130, 0x01, 0x00), Books.SHARES, Books.LATEST, content);
        for (int at = -1; at < 40; at += 13) {
            for (int other : new int[] {0, 1, 2, 3, 4, 254, 255}) {
                byte[] row = bitsOf(40);
                for (int i = 0; i < row.length; i++) {
                    row[i] = (byte) (1 + 2 * row[i]);
                }
                if (at >= 0) {
                    row[at] = (byte) other;
                }
                String name = other + " at " + at;
                StatePress x = new StatePress();
                Checks.feed(x, book);
                CHECKS.due("learn()", x.learn(), content.length);
                FrameReader.Block block = block(name, x, PlainPress.join(row, content), FrameReader.book(book), 8);
                CHECKS.due(name + ", k 3", block.literalKind == 3, at < 0 || other == 1 || other == 3);
                x.forget();
                block = block("no codes, " + name, x, PlainPress.join(row, content), NONE, 8);
                CHECKS.due("no codes, " + name + ", k 3", block.literalKind == 3, false);
            }
        }
    }

    private static void notTheSame() {
        CHECKS.says(9, "new ones (k 2), when at least two literals are not the same,");
        byte[] content = new Weaver(7, 0, 250).literals(4000).row();
        StatePress x = new StatePress();
        Checks.feed(x, content);
        x.learn();
        for (int other = -1; other < 60; other += 20) {
            byte[] row = new byte[6 * 60 + 40];
            for (int i = 0; i < row.length; i++) {
                row[i] = i < 360 ? i % 6 == 5 ? -1 : content[i / 6 * 7 + i % 6] : content[3000 + i - 360];
            }
            if (other >= 0) {
                row[6 * other + 5] = -2;
            }
            FrameReader.Block block = block("60 literals, another at " + other, x, row, FrameReader.book(content), 3);
            CHECKS.due("60 literals, another at " + other + ", k 1", block.literalKind == 1, other < 0);
        }
        // Of two literals 254 and 255 the codes would take the weights of all symbols before: by states.
        byte[] row = new byte[8 * 60];
        Random random = new Random(5);
        for (int i = 0; i < row.length; i++) {
            row[i] = i % 8 < 2 ? (byte) (254 + random.nextInt(2)) : content[i / 8 * 9 + i % 8];
        }
        FrameReader.Block block = block("two literals, far up", x, row, FrameReader.book(content), 3);
        CHECKS.due("two literals, far up, k", block.literalKind, 2);
        CHECKS.due("two literals, far up, by states", block.described < 128, true);
    }

    /** Rows whose ways have just as many bytes, and rows whose ways have one less. */
    private static void ways() {
        CHECKS.says(9, "LITERALS in the way that has the fewest bytes, head and all; of the same the first of these: plain (k 0);");
        int[][] pairs = {{0, 1}, {0, 3}, {0, 2}, {3, 2}};
        int[][] seen = new int[4][3];
        for (int seed = 0; seed < 4000; seed++) {
            Random random = new Random(seed);
            StatePress x = new StatePress();
            PlainPress plain = new PlainPress();
            plain.least = 8;
            x.rule(2, 8);
            int size = 2 + random.nextInt(6);
            byte[] content = new Weaver(seed, 100, 100).literals(80).row();
            byte[] first = PlainPress.join(letters(random, 10 + random.nextInt(40), size), content, content);
            Checks.feed(x, first);
            if (x.make(0) > 0) {
                x.turn();
                plain.book = FrameReader.book(Checks.out(x));
                x.learn();
            }
            byte[] row = PlainPress.join(letters(random, 1 + random.nextInt(30), 1 + random.nextInt(size)), content);
            byte[] want = plain.press(row, 0, 0, 1024);
            Checks.feed(x, row);
            x.press(0, 0, 1024);
            CHECKS.due("seed " + seed, Checks.out(x), want);
            if (plain.trials.isEmpty() || plain.abouts[2] != 1) {
                continue;
            }
            int[] bytes = plain.trials.get(0).literals;
            for (int i = 0; i < 4; i++) {
                compare(x, bytes, pairs[i][0], pairs[i][1], seen[i]);
            }
        }
        for (int i = 0; i < 4; i++) {
            for (int more = 0; more < 3; more++) {
                // One literal alone is as many bytes with k 1; it is never one more.
                boolean never = i == 0 && more == 0;
                CHECKS.due("k " + pairs[i][0] + " and k " + pairs[i][1] + " with " + (1 - more) + " more are seen", seen[i][more] > 0, !never);
            }
        }
    }

    /** When the two are the best, and near to one another, the second is taken only if it has fewer. */
    private static void compare(StatePress x, int[] bytes, int first, int second, int[] seen) {
        if (bytes[first] < 0 || bytes[second] < 0) {
            return;
        }
        int best = Math.min(bytes[first], bytes[second]);
        int more = bytes[first] - bytes[second];
        boolean others = false;
        for (int k = 0; k < 4; k++) {
            others |= k != first && k != second && bytes[k] >= 0 && bytes[k] <= best;
        }
        if (others || more < -1 || more > 1) {
            return;
        }
        seen[more + 1]++;
        int taken = more > 0 ? second : first;
        CHECKS.due("k " + first + " has " + more + " bytes more than k " + second + ", k " + taken, x.about(4 + taken), 1);
    }

    private static byte[] letters(Random random, int n, int size) {
        byte[] row = new byte[n];
        for (int i = 0; i < n; i++) {
            row[i] = (byte) (1 + Math.min(random.nextInt(size), random.nextInt(size)));
        }
        return row;
    }

    /** A row whose new codes make it just as long as it is: it is of kind 0, and the codes are not there for the next one. */
    private static void keptByKindTwo() {
        CHECKS.says(9, "CODES, TABLES and LATEST change by a block that is of kind 2 alone.");
        int[] seen = new int[2];
        for (int seed = 0; seed < 20000 && (seen[0] < 20 || seen[1] < 20); seed++) {
            Random random = new Random(seed);
            int n = 20 + random.nextInt(30);
            byte[] first = letters(random, n, 8 + random.nextInt(8));
            PlainPress plain = new PlainPress();
            plain.least = 8;
            plain.press(first, 0, 0, n);
            PlainPress.Trial trial = plain.trials.get(0);
            int more = trial.packed - n;
            if (trial.literals[2] < 0 || trial.literals[2] >= trial.literals[0] || more < -1 || more > 0) {
                continue;
            }
            byte[] second = first.clone();
            for (int i = n - 1; i > 0; i--) {
                int j = random.nextInt(i + 1);
                byte spare = second[i];
                second[i] = second[j];
                second[j] = spare;
            }
            StatePress x = new StatePress();
            x.rule(2, 8);
            byte[] row = PlainPress.join(first, second);
            Checks.feed(x, row);
            x.press(0, 0, n);
            byte[] want = plain.press(row, 0, 0, n);
            if (plain.trials.get(1).modes[0] != null) {
                continue;
            }
            seen[more + 1]++;
            CHECKS.due("the frame", Checks.out(x), want);
            CHECKS.due("packed with " + more + " more: the codes as they were", x.about(7), more < 0 ? 1 : 0);
        }
        CHECKS.due("rows of one less", seen[0] >= 20, true);
        CHECKS.due("rows of as many", seen[1] >= 20, true);
    }
}
