import java.util.Arrays;
import java.util.List;
import java.util.Random;

/** The boundary cases of promise 9, press: what is refused, heads, rows, blocks and sums. */
public final class EdgesPressTest {
    private static final Checks CHECKS = new Checks();
    private static final PlainPress.Book NONE = new PlainPress.Book();

    public static void main(String[] args) {
        flags();
        windows();
        cuts();
        cutsOfWindows();
        limit();
        limitOfOnes();
        limitOfPacked();
        becomes();
        emptyIn();
        rows();
        sizes();
        sizesTold();
        idsTold();
        windowsTold();
        sameBytes();
        fewerBytes();
        blockHeads();
        sums();
        CHECKS.end();
    }

    /** Whether a used one takes the call; if it does not, all stays. */
    private static void takes(int flags, int e, int cut, boolean taken) {
        Twins twins = Twins.used();
        String call = "press(" + flags + ", " + e + ", " + cut + ")";
        int answer = twins.x.press(flags, e, cut);
        CHECKS.due(call + " is taken", answer > 0, taken);
        if (!taken) {
            CHECKS.due(call, answer, -1);
            twins.alike(CHECKS, "after " + call);
            return;
        }
        CHECKS.due("size() after " + call, twins.x.size(), answer);
        // IN, the dictionary and the rule stay when it is taken, too.
        twins.y.press(flags, e, cut);
        CHECKS.due("IN after " + call, twins.in(), Twins.ROW);
    }

    private static void flags() {
        CHECKS.says(9, "-1, refused, when flags are not 0 .. 15, e not 0 .. 11, cut not 1 .. 8,000 or (not SINGLE) above 2^(10 + e),"
            + " or there would be more than 12,000.");
        for (int flags = -2; flags <= 17; flags++) {
            takes(flags, 0, 1024, flags >= 0 && flags <= 15);
        }
        for (int flags : new int[] {Integer.MIN_VALUE, -16, 32, 256, 65536, Integer.MAX_VALUE}) {
            takes(flags, 0, 1024, false);
        }
    }

    private static void windows() {
        CHECKS.says(9, "e not 0 .. 11,");
        for (int flags : new int[] {0, 4, 15}) {
            for (int e = -2; e <= 13; e++) {
                takes(flags, e, 1, e >= 0 && e <= 11);
            }
            for (int e : new int[] {Integer.MIN_VALUE, -10, 21, 22, 32, 33, Integer.MAX_VALUE}) {
                takes(flags, e, 1, false);
            }
        }
    }

    private static void cuts() {
        CHECKS.says(9, "cut not 1 .. 8,000");
        for (int flags : new int[] {0, 3, 4, 12, 15}) {
            for (int cut : new int[] {Integer.MIN_VALUE, -8000, -1, 0, 1, 2, 7999, 8000, 8001, 8192, 65536, Integer.MAX_VALUE}) {
                takes(flags, 3, cut, cut >= 1 && cut <= 8000);
                takes(flags, 11, cut, cut >= 1 && cut <= 8000);
            }
        }
    }

    private static void cutsOfWindows() {
        CHECKS.says(9, "or (not SINGLE) above 2^(10 + e),");
        for (int e = 0; e <= 3; e++) {
            int window = 1024 << e;
            for (int cut = window - 1; cut <= window + 1; cut++) {
                for (int flags : new int[] {0, 3, 11}) {
                    takes(flags, e, cut, cut <= window && cut <= 8000);
                    takes(flags + 4, e, cut, cut <= 8000);
                }
            }
        }
        takes(0, 0, 8000, false);
        takes(0, 2, 8000, false);
        takes(0, 3, 8000, true);
        takes(4, 0, 8000, true);
    }

    /** Rows of two bytes take 5 each, a last one of one byte takes 4, a head 6, a sum 4. */
    private static void limit() {
        CHECKS.says(9, "or there would be more than 12,000.");
        int[][] frames = {{2397, 1, 1, 11999}, {2398, 1, 0, 12000}, {2399, 0, 0, 12001}, {2398, 0, 1, 12000}, {2398, 1, 1, 12004},
            {2397, 1, 3, 12001}, {2398, 0, 4, 11997}, {2398, 1, 4, 12001}, {2398, 0, 5, 12001}, {3999, 0, 0, 20001}};
        for (int[] one : frames) {
            Twins twins = Twins.used();
            for (StatePress each : new StatePress[] {twins.x, twins.y}) {
                each.clear();
                each.write(0x6162000000000000L, 2);
                each.again(2, one[0] - 1);
                if (one[1] > 0) {
                    each.write(0, 1);
                }
                each.rule(2, 3);
            }
            String call = "a frame of " + one[3];
            CHECKS.due(call, twins.x.press(one[2], 0, 2), one[3] <= 12000 ? one[3] : -1);
            if (one[3] <= 12000) {
                CHECKS.due("size() of " + call, twins.x.size(), one[3]);
                CHECKS.due("its blocks", twins.x.about(0) + twins.x.about(1), one[0] + one[1]);
                CHECKS.due("its last byte is there", twins.x.byteAt(one[3] - 1) >= 0, true);
                CHECKS.due("behind it is none", twins.x.byteAt(one[3]), -1);
            } else {
                twins.alike(CHECKS, "after " + call);
            }
        }
    }

    /** Rows of one byte take 4 each. */
    private static void limitOfOnes() {
        CHECKS.says(9, "or there would be more than 12,000.");
        for (int n = 2995; n <= 3001; n++) {
            int[][] heads = {{0, 6}, {1, 10}, {2, 8}, {4, 7}, {5, 11}};
            for (int[] head : heads) {
                Twins twins = new Twins();
                twins.feed(new Weaver(n).literals(n).row());
                int would = head[1] + 4 * n;
                CHECKS.due(n + " rows of one byte, flags " + head[0], twins.x.press(head[0], 0, 1), would <= 12000 ? would : -1);
                CHECKS.due("size() then", twins.x.size(), would <= 12000 ? would : 0);
                CHECKS.due("about(1) then", twins.x.about(1), would <= 12000 ? n : 0);
            }
        }
    }

    /**
     * With a dictionary made for it a row of 6 bytes can be packed into 5: 1333 such rows, all but the last few of kind 0, which
     * have 6 + 3 bytes, make 12,003 bytes less one for each that is packed.
     */
    private static void limitOfPacked() {
        CHECKS.says(9, "or there would be more than 12,000.");
        byte[] one = PlainPress.told(new int[] {32});
        byte[] content = new Weaver(1).literals(30).row();
        byte[] book = PlainPress.join(Books.MARK, Books.ID, Books.CODES, one, PlainPress.told(new int[] {0, 0, 0, 32}), one,
            Books.latest(24, 6, 7), content);
        for (int packed = 1; packed <= 3; packed++) {
            int[] distances = {6, 24, 6};
            Weaver weaver = new Weaver(2).behind(content).literals(6 * (1333 - packed));
            for (int i = 0; i < packed; i++) {
                weaver.copy(distances[i], 6);
            }
            Twins twins = new Twins();
            twins.feed(book);
            twins.x.learn();
            twins.y.learn();
            twins.feed(weaver.rowFrom(30));
            int would = 12003 - packed;
            CHECKS.due(packed + " packed rows", twins.x.press(0, 4, 6), would <= 12000 ? would : -1);
            CHECKS.due("about(2) then", twins.x.about(2), would <= 12000 ? packed : 0);
            // For the distances the known share costs as little as that of the dictionary.
            CHECKS.due("about(8) then", twins.x.about(8), would <= 12000 ? packed : 0);
            CHECKS.due("about(11) then", twins.x.about(11), would <= 12000 ? 2 * packed : 0);
            if (would > 12000) {
                twins.alike(CHECKS, "after " + packed + " packed rows");
            } else {
                CHECKS.due("the content", FrameReader.content(Checks.out(twins.x), FrameReader.book(book)), weaver.rowFrom(30));
            }
        }
    }

    private static void becomes() {
        CHECKS.says(9, "OUT becomes the frame WRITTEN for IN: how many bytes.");
        CHECKS.says(9, "A FRAME WRITTEN for IN, with a DICTIONARY or none:");
        StatePress x = new StatePress();
        byte[][] rows = {Twins.ROW, new byte[0], Checks.row(new Random(1), 8000), Checks.bytes(1), Twins.ROW};
        byte[][] books = {new byte[0], Checks.text("abcdefgh"), Books.described(Books.CODES)};
        for (byte[] book : books) {
            Checks.feed(x, book);
            x.learn();
            PlainPress plain = new PlainPress();
            plain.book = FrameReader.book(book);
            for (byte[] row : rows) {
                Checks.feed(x, row);
                for (int flags = 0; flags < 16; flags++) {
                    // A longer frame, then a shorter one, then a longer one: nothing of one is left in another.
                    byte[] want = plain.press(row, flags, 3, 8000);
                    CHECKS.due("press(" + flags + ", 3, 8000) of " + row.length, x.press(flags, 3, 8000), want.length);
                    CHECKS.due("size()", x.size(), want.length);
                    CHECKS.due("OUT", Checks.out(x), want);
                    CHECKS.due("the same once more", x.press(flags, 3, 8000), want.length);
                    CHECKS.due("OUT once more", Checks.out(x), want);
                }
            }
        }
        CHECKS.says(9, "how many bytes.");
        CHECKS.due("press", x.press(0, 0, 1024), x.size());
    }

    private static void emptyIn() {
        CHECKS.says(9, "(one row of no bytes when IN is empty)");
        for (int flags = 0; flags < 16; flags++) {
            StatePress x = new StatePress();
            boolean single = (flags & 4) != 0;
            int size = single ? 1 : (flags & 2) != 0 ? 4 : 0;
            int sum = flags & 1;
            for (int cut : new int[] {1, 1024}) {
                CHECKS.due("press(" + flags + ", 0, " + cut + ")", x.press(flags, 0, cut), 5 + (single ? 0 : 1) + size + 3 + 4 * sum);
                byte[] out = Checks.out(x);
                List<FrameReader.Block> blocks = FrameReader.blocks(out, NONE);
                CHECKS.due("its blocks", blocks.size(), 1);
                CHECKS.due("its kind", blocks.get(0).kind, 0);
                CHECKS.due("its size", blocks.get(0).size, 0);
                CHECKS.due("its content", FrameReader.content(out, NONE), new byte[0]);
                CHECKS.due("about(0)", x.about(0), 1);
                CHECKS.due("about(1) + about(2)", x.about(1) + x.about(2), 0);
            }
        }
        // A dictionary, even one with codes and tables, changes nothing of it but the ID.
        StatePress x = new StatePress();
        Checks.feed(x, Books.described(Books.CODES));
        x.learn();
        CHECKS.due("with a dictionary", x.press(8, 0, 1), 10);
        CHECKS.due("with a dictionary", Checks.out(x), Checks.bytes(40, 181, 47, 253, 1, 0, 7, 1, 0, 0));
    }

    private static void rows() {
        CHECKS.says(9, "the CONTENT in rows of CUT bytes, the last one with what is left");
        for (int cut : new int[] {1, 2, 3, 10, 1023, 1024}) {
            for (int n : new int[] {1, cut - 1, cut, cut + 1, 2 * cut - 1, 2 * cut, 2 * cut + 1, 3 * cut}) {
                if (n < 1 || 4 * n / cut > 8000) {
                    continue;
                }
                StatePress x = new StatePress();
                byte[] row = new Weaver(cut).literals(n).row();
                Checks.feed(x, row);
                x.press(0, 0, cut);
                List<FrameReader.Block> blocks = FrameReader.blocks(Checks.out(x), NONE);
                CHECKS.due(n + " bytes in rows of " + cut, blocks.size(), (n + cut - 1) / cut);
                CHECKS.due("about(0 .. 2)", x.about(0) + x.about(1) + x.about(2), blocks.size());
                for (int i = 0; i < blocks.size(); i++) {
                    CHECKS.due("row " + i, blocks.get(i).size, Math.min(cut, n - i * cut));
                }
                CHECKS.due("the content", FrameReader.content(Checks.out(x), NONE), row);
            }
        }
    }

    private static void sizes() {
        CHECKS.says(9, "2 the SIZE is told, in the fewest bytes that can tell it;");
        int[] sizes = {0, 1, 2, 254, 255, 256, 257, 510, 511, 512, 513, 767, 768, 7999, 8000};
        for (int n : sizes) {
            StatePress x = new StatePress();
            Checks.feed(x, new byte[n]);
            x.press(2, 3, 8000);
            CHECKS.due("the head for " + n, x.byteAt(4), n < 256 ? 128 : 64);
            CHECKS.due("the window's byte", x.byteAt(5), 24);
            int told = n < 256 ? n : n - 256;
            int bytes = n < 256 ? 4 : 2;
            for (int i = 0; i < bytes; i++) {
                CHECKS.due("byte " + i + " of SIZE " + n, x.byteAt(6 + i), told >> 8 * i & 255);
            }
            CHECKS.due("the frame's size", x.size(), 6 + bytes + (n == 0 ? 3 : 4));
        }
    }

    private static void sizesTold() {
        CHECKS.says(9, "4 SINGLE (the SIZE is told then, too; the WINDOW is the SIZE);");
        int[] sizes = {0, 1, 2, 254, 255, 256, 257, 511, 512, 7999, 8000};
        for (int n : sizes) {
            for (int flags : new int[] {4, 6}) {
                for (int e : new int[] {0, 11}) {
                    StatePress x = new StatePress();
                    Checks.feed(x, new byte[n]);
                    x.press(flags, e, 8000);
                    CHECKS.due("the head for " + n, x.byteAt(4), n < 256 ? 32 : 96);
                    int told = n < 256 ? n : n - 256;
                    int bytes = n < 256 ? 1 : 2;
                    for (int i = 0; i < bytes; i++) {
                        CHECKS.due("byte " + i + " of SIZE " + n, x.byteAt(5 + i), told >> 8 * i & 255);
                    }
                    CHECKS.due("the frame's size", x.size(), 5 + bytes + (n == 0 ? 3 : 4));
                }
            }
        }
    }

    private static void idsTold() {
        CHECKS.says(9, "8 the ID of the dictionary is told, in the fewest bytes, if it is not 0.");
        int[][] ids = {{0, 0}, {1, 1}, {255, 1}, {256, 2}, {65535, 2}, {65536, 4}, {-1, 4}, {Integer.MIN_VALUE, 4}};
        for (int[] id : ids) {
            for (int flags = 0; flags < 16; flags++) {
                StatePress x = new StatePress();
                Checks.feed(x, PlainPress.join(Books.MARK, PlainPress.number(id[0], 4), Books.CODES, Books.SHARES, Books.LATEST, Books.CONTENT));
                x.learn();
                x.write(0, 3);
                int with = x.press(flags | 8, 0, 3);
                int bytes = x.byteAt(4) & 3;
                CHECKS.due("the bytes of ID " + id[0], bytes == 3 ? 4 : bytes, id[1]);
                CHECKS.due("the ID told", new java.math.BigInteger(1, reversed(Checks.out(x), (flags & 4) != 0 ? 5 : 6, id[1])).longValue(),
                    id[0] & 0xFFFFFFFFL);
                CHECKS.due("without it", x.press(flags & 7, 0, 3), with - id[1]);
                CHECKS.due("its head", x.byteAt(4) & 3, 0);
            }
        }
    }

    private static byte[] reversed(byte[] row, int from, int n) {
        byte[] other = new byte[n];
        for (int i = 0; i < n; i++) {
            other[n - 1 - i] = row[from + i];
        }
        return other;
    }

    private static void windowsTold() {
        CHECKS.says(9, "Not SINGLE, the WINDOW is 2^(10 + e).");
        for (int e = 0; e <= 11; e++) {
            StatePress x = new StatePress();
            x.write(-1, 3);
            x.press(0, e, 1);
            CHECKS.due("the window's byte", x.byteAt(5), 8 * e);
            x.press(4, e, 1);
            CHECKS.due("none with SINGLE: the SIZE", x.byteAt(5), 3);
        }
    }

    private static void sameBytes() {
        CHECKS.says(9, "If the row has bytes and all are the same, it is a block of kind 1.");
        for (int n : new int[] {1, 2, 3, 4, 31, 32, 8000}) {
            for (int other = -1; other < n; other += Math.max(1, n - 1)) {
                StatePress x = new StatePress();
                byte[] row = new byte[n];
                Arrays.fill(row, (byte) 200);
                if (other >= 0) {
                    row[other]++;
                }
                Checks.feed(x, row);
                x.press(0, 3, 8000);
                boolean same = other < 0 || n == 1;
                CHECKS.due(n + " bytes, another at " + other, x.about(1), same ? 1 : 0);
                if (same) {
                    CHECKS.due("its block", Arrays.copyOfRange(Checks.out(x), 6, x.size()),
                        PlainPress.join(PlainPress.number(8 * n + 3, 3), new byte[] {row[0]}));
                }
                CHECKS.due("the content", FrameReader.content(Checks.out(x), NONE), row);
            }
        }
        // With a dictionary of the same bytes, and within several rows.
        StatePress x = new StatePress();
        Checks.feed(x, new byte[50]);
        x.learn();
        Checks.feed(x, new byte[50]);
        CHECKS.due("with a dictionary", x.press(0, 0, 20), 6 + 3 * 4);
        CHECKS.due("with a dictionary", x.about(1), 3);
        Checks.feed(x, Checks.text("aaaab"));
        x.press(0, 0, 4);
        CHECKS.due("the last row of one byte", x.about(1), 2);
    }

    /** What packs a row into just as many bytes is not taken, what packs it into one less is. */
    private static void fewerBytes() {
        CHECKS.says(9, "Otherwise it is PACKED, of kind 2, if that has fewer bytes than the row; else of kind 0.");
        int[] seen = new int[3];
        for (int seed = 0; seed < 3000 && (seen[0] < 30 || seen[1] < 30 || seen[2] < 30); seed++) {
            Random random = new Random(seed);
            int size = 6 + random.nextInt(40);
            Weaver weaver = new Weaver(seed).literals(size);
            byte[] row = weaver.copy(1 + random.nextInt(size), 3 + random.nextInt(6)).literals(random.nextInt(3)).row();
            StatePress x = new StatePress();
            PlainPress plain = new PlainPress();
            byte[] want = plain.press(row, 0, 0, 1024);
            PlainPress.Trial trial = plain.trials.get(0);
            int more = trial.packed - trial.row;
            if (more < -1 || more > 1) {
                continue;
            }
            seen[more + 1]++;
            Checks.feed(x, row);
            x.press(0, 0, 1024);
            CHECKS.due("packed it has " + more + " more, kind 2", x.about(2), more < 0 ? 1 : 0);
            CHECKS.due("packed it has " + more + " more, kind 0", x.about(0), more < 0 ? 0 : 1);
            CHECKS.due("packed it has " + more + " more", Checks.out(x), want);
        }
        for (int i = 0; i < 3; i++) {
            CHECKS.due("packed it has " + (i - 1) + " more, rows seen", seen[i] >= 30, true);
        }
    }

    private static void blockHeads() {
        CHECKS.says(9, "A BLOCK: three bytes, 8 * n + 2 * kind + 1 if it is the last one.");
        for (int n : new int[] {2, 30, 31, 32, 33, 255, 256, 1000, 7999, 8000}) {
            byte[] row = new Weaver(n).literals(n).row();
            StatePress x = new StatePress();
            Checks.feed(x, row);
            x.press(0, 3, 8000);
            if (x.about(0) == 1) {
                CHECKS.due("one block of " + n, Arrays.copyOfRange(Checks.out(x), 6, 9), PlainPress.number(8 * n + 1, 3));
                CHECKS.due("its bytes", Arrays.copyOfRange(Checks.out(x), 9, 9 + n), row);
            }
            CHECKS.due("blocks of " + n, x.about(0) + x.about(2), 1);
            x.write(0, 1);
            x.press(4, 0, Math.min(n, 7999));
            int head = n + 1 < 256 ? 6 : 7;
            if (n < 8000) {
                CHECKS.due("one that is not the last", x.byteAt(head) & 1, 0);
                CHECKS.due("one that is the last", x.byteAt(x.size() - 4) & 7, 3);
            }
        }
    }

    private static void sums() {
        CHECKS.says(9, "THE WIDE SUM of n bytes,");
        CHECKS.says(9, "if n is at least 32, four LANES begin");
        // One by one over the edges of 4, 8 and 32 bytes, twice.
        for (int n = 0; n <= 100; n++) {
            summed(n);
        }
        summed(7999);
        summed(8000);
        CHECKS.says(9, "1 SUMMED;");
        // The lowest four bytes of XXH64 of no bytes, of "a" and of "abc", as known elsewhere.
        int[][] known = {{0x99, 0xE9, 0xD8, 0x51}, {0x5B, 0x6E, 0x8C, 0xA9}, {0x99, 0x09, 0x77, 0xAD}};
        String[] texts = {"", "a", "abc"};
        for (int i = 0; i < 3; i++) {
            StatePress x = new StatePress();
            Checks.feed(x, Checks.text(texts[i]));
            x.press(1, 0, 1024);
            CHECKS.due("the sum of " + texts[i], Arrays.copyOfRange(Checks.out(x), x.size() - 4, x.size()), Checks.bytes(known[i]));
        }
    }

    private static void summed(int n) {
        byte[] row = new byte[n];
        new Random(n).nextBytes(row);
        byte[] ones = new byte[n];
        Arrays.fill(ones, (byte) 255);
        for (byte[] each : new byte[][] {row, ones, new byte[n]}) {
            StatePress x = new StatePress();
            Checks.feed(x, each);
            int without = x.press(0, 3, 8000);
            byte[] frame = Checks.out(x);
            CHECKS.due("press with a sum of " + n, x.press(1, 3, 8000), without + 4);
            frame[4] |= 4;
            byte[] sum = PlainPress.number(FrameReader.wideSum(each).longValue(), 4);
            CHECKS.due("a sum of " + n, Checks.out(x), PlainPress.join(frame, sum));
        }
    }
}
