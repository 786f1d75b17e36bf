import java.util.Arrays;

/** The boundary cases of promise 10, make. */
public final class EdgesMakeTest {
    private static final Checks CHECKS = new Checks();
    private static final String REFUSED = "-1, refused, when IN has less than 8 bytes, there are no sequences, the CODES are not there (k 2),"
        + " or there would be more than 12,000.";

    public static void main(String[] args) {
        fewBytes();
        noSequences();
        oneLiteral();
        codes();
        full();
        ids();
        withoutDictionary();
        window();
        latest();
        learned();
        CHECKS.end();
    }

    /** What make() answers for the row by a rule; when it is refused all stays, else IN, the dictionary and the rule. */
    private static byte[] makes(String name, byte[] row, int way, int least, boolean taken) {
        Twins twins = Twins.used();
        twins.feed(row);
        twins.x.rule(way, least);
        twins.y.rule(way, least);
        PlainPress plain = new PlainPress();
        plain.way = way;
        plain.least = least;
        byte[] want = plain.make(row, 9);
        CHECKS.due(name + ": is made", want != null, taken);
        CHECKS.due(name + ": make", twins.x.make(9), taken && want != null ? want.length : -1);
        if (taken && want != null) {
            CHECKS.due(name + ": made", Checks.out(twins.x), want);
            CHECKS.due(name + ": size()", twins.x.size(), want.length);
            for (int what = 0; what < 12; what++) {
                CHECKS.due(name + ": about(" + what + ") stays", twins.x.about(what), twins.y.about(what));
            }
            twins.y.make(9);
        }
        twins.alike(CHECKS, name);
        return want;
    }

    private static void fewBytes() {
        CHECKS.says(10, REFUSED);
        byte[] row = Checks.text("abcabcabcabc");
        for (int n = 0; n <= 12; n++) {
            makes(n + " bytes", Arrays.copyOf(row, n), 2, 3, n >= 8);
        }
        row = Checks.text("abababababab");
        for (int n = 0; n <= 12; n++) {
            makes(n + " bytes of two", Arrays.copyOf(row, n), 2, 3, n >= 8);
        }
    }

    private static void noSequences() {
        CHECKS.says(10, "there are no sequences,");
        for (int least = 3; least <= 8; least++) {
            for (int n = least - 1; n <= least + 1; n++) {
                String start = "abcdefghijklmnop".substring(0, n);
                makes("LEAST " + least + ", a copy of " + n, Checks.text(start + "01234567" + start), 2, least, n >= least);
            }
        }
        makes("nothing twice", Checks.text("abcdefghijklmnopqrstuvwxyz"), 2, 3, false);
    }

    private static void oneLiteral() {
        CHECKS.says(10, "the CODES are not there (k 2),");
        makes("one literal", Checks.text("aaaaaaaaaaaa"), 2, 3, false);
        makes("two literals, the first another", Checks.text("baaaaaaaaaaa"), 2, 3, true);
        makes("two literals, the last another", Checks.text("aaaaaaaaaaab"), 2, 3, true);
        // Seven copied ones are too few for LEAST 8: eight literals of the same, and no sequences.
        makes("eight literals of the same", Checks.text("aaaaaaaa"), 2, 8, false);
    }

    private static void codes() {
        CHECKS.says(10, "the CODES are not there (k 2),");
        byte[] all = new byte[264];
        for (int i = 0; i < all.length; i++) {
            all[i] = (byte) i;
        }
        makes("all bytes once: no description", all, 2, 3, false);
        all[100]--;
        makes("all bytes but one", all, 2, 3, true);
        byte[] some = new byte[136];
        for (int i = 0; i < some.length; i++) {
            some[i] = (byte) (i % 128);
        }
        makes("128 bytes once: direct", some, 2, 3, true);
        for (int i = 0; i < some.length; i++) {
            some[i] = (byte) (128 + i % 128);
        }
        makes("the upper 128 bytes once: by states", some, 2, 3, true);
    }

    /** There is never more than 12,000: with 8,000 bytes of content all that is told takes some hundreds. */
    private static void full() {
        CHECKS.says(10, "OUT becomes a formed dictionary with IN as content,");
        for (int n : new int[] {7600, 7999, 8000}) {
            byte[] row = new Weaver(n, 0, 200).literals(n - 200).copy(900, 100).literals(20).copy(3000, 80).row();
            byte[] book = makes(n + " bytes", row, 2, 3, true);
            CHECKS.due(n + " bytes: the content", Arrays.copyOfRange(book, book.length - n, book.length), row);
            StatePress x = new StatePress();
            Checks.feed(x, row);
            CHECKS.due(n + " bytes: make", x.make(9), book.length);
            CHECKS.due(n + " bytes: turn", x.turn(), book.length <= 8000);
            CHECKS.due(n + " bytes: learn", x.learn(), n);
        }
        turned();
    }

    /** Of the dictionaries near 8,000 bytes those of up to 8,000 become IN. */
    private static void turned() {
        int[] seen = new int[3];
        for (int n = 7700; n <= 8000; n++) {
            byte[] row = Arrays.copyOf(new Weaver(4).literals(60).copy(30, 20).literals(30).copy(2, 7900).row(), n);
            StatePress x = new StatePress();
            Checks.feed(x, row);
            int size = x.make(1);
            if (Math.abs(size - 8000) <= 1) {
                seen[size - 7999]++;
                CHECKS.due("turn() of a dictionary of " + size, x.turn(), size <= 8000);
                CHECKS.due("learn() then", x.learn(), n);
            }
        }
        CHECKS.due("dictionaries of 7,999, 8,000 and 8,001", seen[0] > 0 && seen[1] > 0 && seen[2] > 0, true);
    }

    private static void ids() {
        CHECKS.says(10, "with an ID:");
        int[] ids = {0, 1, -1, 255, 256, 65535, 65536, 0x01020304, Integer.MAX_VALUE, Integer.MIN_VALUE};
        byte[] row = Checks.text("abcdabcdefgabcefg");
        byte[] first = null;
        for (int id : ids) {
            StatePress x = new StatePress();
            Checks.feed(x, row);
            CHECKS.due("make(" + id + ") is taken", x.make(id) > 0, true);
            byte[] out = Checks.out(x);
            CHECKS.due("the mark", Arrays.copyOf(out, 4), Books.MARK);
            CHECKS.due("the ID " + id, Arrays.copyOfRange(out, 4, 8), PlainPress.number(id, 4));
            first = first == null ? out : first;
            CHECKS.due("the rest is the same", Arrays.copyOfRange(out, 8, out.length), Arrays.copyOfRange(first, 8, first.length));
            x.turn();
            CHECKS.due("learn()", x.learn(), row.length);
            int bytes = id == 0 ? 0 : (id & 0xFFFFFFFFL) < 256 ? 1 : (id & 0xFFFFFFFFL) < 65536 ? 2 : 4;
            CHECKS.due("a frame with ID " + id, x.press(8, 0, 1), 9 + bytes);
        }
    }

    private static void withoutDictionary() {
        CHECKS.says(10, "without a dictionary,");
        byte[] row = Checks.text("abcdefgh0123456789abcdefgh");
        StatePress x = new StatePress();
        Checks.feed(x, row);
        x.make(1);
        byte[] want = Checks.out(x);
        for (byte[] book : new byte[][] {row, Books.described(Books.CODES), want, Checks.text("0123456789")}) {
            Checks.feed(x, book);
            CHECKS.due("learn()", x.learn() >= 0, true);
            Checks.feed(x, row);
            CHECKS.due("make with a dictionary", x.make(1), want.length);
            CHECKS.due("made with a dictionary", Checks.out(x), want);
        }
        // With the dictionary all would be copied; without it nothing is.
        Checks.feed(x, Checks.text("abcdefghijklmnop"));
        x.learn();
        Checks.feed(x, Checks.text("abcdefghijklmnop"));
        CHECKS.due("what the dictionary has alone", x.make(1), -1);
    }

    private static void window() {
        CHECKS.says(10, "with a WINDOW that is enough;");
        for (int d : new int[] {1023, 1024, 1025, 4096, 7900}) {
            byte[] row = new Weaver(d).sequence(d, d, 60).row();
            byte[] book = makes("a distance of " + d, row, 2, 3, true);
            int symbol = 31 - Integer.numberOfLeadingZeros(d + 3);
            CHECKS.due("the points of its symbol", FrameReader.book(book).tables[1][symbol], 32);
        }
        // Cuts and windows of frames before count for nothing.
        StatePress x = new StatePress();
        byte[] row = new Weaver(1).sequence(2000, 2000, 60).row();
        Checks.feed(x, row);
        x.press(0, 0, 100);
        CHECKS.due("after a press with a small window", x.make(9) > 0, true);
    }

    private static void latest() {
        CHECKS.says(10, "LATEST 1, 4, 8:");
        byte[] row = Checks.text("abcdefghijkabcdefghijk, abcde, ghijk");
        byte[] book = makes("latest", row, 2, 3, true);
        CHECKS.due("the three distances", Arrays.copyOfRange(book, book.length - row.length - 12, book.length - row.length), Books.LATEST);
        // The symbols of the sequences are by 1, 4, 8, whatever the dictionary that is there tells.
        for (int distance : new int[] {1, 4, 8, 9}) {
            byte[] one = new Weaver(3).sequence(12, distance, 40).row();
            StatePress x = new StatePress();
            Checks.feed(x, PlainPress.join(Books.MARK, Books.ID, Books.CODES, Books.SHARES, Books.latest(9, 5, 7), Checks.text("0123456789")));
            CHECKS.due("learn()", x.learn(), 10);
            Checks.feed(x, one);
            CHECKS.due("make()", x.make(1) > 0, true);
            int symbol = distance == 1 ? 0 : distance < 9 ? 1 : 3;
            CHECKS.due("the symbol of distance " + distance, FrameReader.book(Checks.out(x)).tables[1][symbol], 32);
        }
        // What was learned before that one, or was read and refused, counts as little.
        byte[] one = new Weaver(3).sequence(12, 4, 40).sequence(3, 9, 10).sequence(2, 7, 10).row();
        byte[] want = new PlainPress().make(one, 1);
        byte[] other = PlainPress.join(Books.MARK, Books.ID, Books.CODES, Books.SHARES, Books.latest(9, 7, 4), Checks.text("0123456789"));
        byte[] wrong = PlainPress.join(Books.MARK, Books.ID, Books.CODES, Books.SHARES, Books.latest(9, 7, 11), Checks.text("0123456789"));
        for (int times = 1; times <= 3; times++) {
            for (byte[] last : new byte[][] {other, wrong, Checks.text("plain")}) {
                StatePress x = new StatePress();
                for (int i = 0; i < times; i++) {
                    Checks.feed(x, other);
                    CHECKS.due("learn()", x.learn(), 10);
                }
                Checks.feed(x, last);
                CHECKS.due("learn() of the last one", x.learn(), last == other ? 10 : last == wrong ? -4 : 5);
                Checks.feed(x, one);
                CHECKS.due("make()", x.make(1), want.length);
                CHECKS.due("made", Checks.out(x), want);
            }
        }
        // Content of 8 bytes is enough for a distance of 8.
        StatePress x = new StatePress();
        Checks.feed(x, Checks.text("abababab"));
        CHECKS.due("make() of 8 bytes", x.make(1) > 0, true);
        x.turn();
        CHECKS.due("learn() of it", x.learn(), 8);
    }

    /** What make() makes learn() takes. */
    private static void learned() {
        CHECKS.says(10, "how many bytes.");
        for (int seed = 0; seed < 200; seed++) {
            java.util.Random random = new java.util.Random(seed);
            byte[] row = Checks.row(random, 8 + random.nextInt(600));
            StatePress x = new StatePress();
            x.rule(random.nextInt(4), 3 + random.nextInt(6));
            Checks.feed(x, row);
            int size = x.make(seed);
            if (size > 0) {
                CHECKS.due("size()", x.size(), size);
                CHECKS.due("turn()", x.turn(), true);
                CHECKS.due("learn()", x.learn(), row.length);
            }
        }
    }
}
