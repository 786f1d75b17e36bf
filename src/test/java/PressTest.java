import java.util.Arrays;
import java.util.Random;

/** Promise 9: press; and 11, what about() tells of it. */
public final class PressTest {
    private static final Checks CHECKS = new Checks();

    public static void main(String[] args) {
        refused();
        limit();
        heads();
        sums();
        literals();
        manySequences();
        keptStates();
        rolledBack();
        CHECKS.end();
    }

    private static byte[] same(String name, byte[] row, int flags, int e, int cut) {
        StatePress x = new StatePress();
        PlainPress plain = new PlainPress();
        return same(name, x, plain, row, flags, e, cut);
    }

    private static byte[] same(String name, StatePress x, PlainPress plain, byte[] row, int flags, int e, int cut) {
        Checks.feed(x, row);
        byte[] want = plain.press(row, flags, e, cut);
        CHECKS.due(name, x.press(flags, e, cut), want.length);
        byte[] out = Checks.out(x);
        CHECKS.due(name, out, want);
        CHECKS.due(name + " read back", FrameReader.content(out, plain.book), row);
        for (int what = 0; what < 12; what++) {
            CHECKS.due(name + " about(" + what + ")", x.about(what), plain.abouts[what]);
        }
        return out;
    }

    private static void refused() {
        StatePress x = new StatePress();
        Checks.feed(x, Checks.text("abcabcabcabcabc"));
        x.press(3, 2, 4096);
        byte[] out = Checks.out(x);
        int[][] bad = {{-1, 0, 1}, {16, 0, 1}, {0, -1, 1}, {0, 12, 1}, {0, 0, 0}, {0, 0, -1}, {0, 3, 8001}, {4, 0, 8001},
            {0, 0, 1025}, {0, 1, 2049}, {0, 2, 4097}, {3, 0, 1025}, {11, 1, 2049}, {4, -1, 1}, {4, 12, 1}, {4, 0, 0},
            {Integer.MIN_VALUE, 0, 1}, {Integer.MAX_VALUE, 0, 1}, {0, Integer.MAX_VALUE, 1}, {0, Integer.MIN_VALUE, 1},
            {0, 0, Integer.MAX_VALUE}, {0, 0, Integer.MIN_VALUE}};
        for (int[] call : bad) {
            CHECKS.due("press" + Arrays.toString(call), x.press(call[0], call[1], call[2]), -1);
            CHECKS.due("OUT then", Checks.out(x), out);
        }
        int[][] good = {{0, 0, 1024}, {0, 1, 2048}, {0, 2, 4096}, {0, 3, 8000}, {15, 11, 8000}, {4, 0, 8000}, {12, 0, 1025}};
        for (int[] call : good) {
            CHECKS.due("press" + Arrays.toString(call), x.press(call[0], call[1], call[2]) > 0, true);
        }
        CHECKS.due("IN stays", Checks.in(x), Checks.text("abcabcabcabcabc"));
    }

    /** Rows of two bytes that are not the same take 5 bytes each, a row of one takes 4, the head takes 6. */
    private static void limit() {
        StatePress x = new StatePress();
        Checks.feed(x, Checks.text("ab"));
        x.again(2, 2397);
        x.write(0, 1);
        CHECKS.due("a frame of 12,000", x.press(0, 0, 2), 12000);
        CHECKS.due("its size", x.size(), 12000);
        CHECKS.due("its last byte", x.byteAt(11999), 0);
        CHECKS.due("behind it", x.byteAt(12000), -1);
        CHECKS.due("its blocks", x.about(0), 2398);
        CHECKS.due("a frame of 12,004", x.press(1, 0, 2), -1);
        CHECKS.due("a frame of 12,001", x.press(4, 0, 2), -1);
        CHECKS.due("OUT then", x.size(), 12000);
        CHECKS.due("its blocks then", x.about(0), 2398);
        x.clear();
        Checks.feed(x, Checks.text("ab"));
        x.again(2, 3999);
        CHECKS.due("a frame of 20,006", x.press(0, 0, 2), -1);
        CHECKS.due("OUT then", x.size(), 12000);
        CHECKS.due("a frame after that", x.press(0, 0, 1024) > 0, true);
        CHECKS.due("its content", FrameReader.content(Checks.out(x), new PlainPress.Book()).length, 8000);
    }

    private static void heads() {
        int[] sizes = {0, 1, 2, 255, 256, 257, 511, 512, 8000};
        for (int n : sizes) {
            byte[] row = new byte[n];
            for (int flags = 0; flags < 16; flags++) {
                byte[] out = same("a head, " + n + " bytes, flags " + flags, row, flags, 3, 8000);
                boolean single = (flags & 4) != 0;
                int size = (flags & 6) == 0 ? 0 : n >= 256 ? 2 : single ? 1 : 4;
                int sum = (flags & 1) != 0 ? 4 : 0;
                CHECKS.due("its length", out.length, 5 + (single ? 0 : 1) + size + (n == 0 ? 3 : 4) + sum);
            }
        }
        for (int e = 0; e <= 11; e++) {
            CHECKS.due("the window's byte", same("window", new byte[3], 0, e, 1)[5], 8 * e);
        }
    }

    private static void sum(String text, int... want) {
        byte[] out = same("a sum of " + text, Checks.text(text), 1, 0, 1024);
        CHECKS.due("a sum of " + text, Arrays.copyOfRange(out, out.length - 4, out.length), Checks.bytes(want));
    }

    private static void sums() {
        sum("", 0x99, 0xE9, 0xD8, 0x51);
        sum("a", 0x5B, 0x6E, 0x8C, 0xA9);
        sum("abc", 0x99, 0x09, 0x77, 0xAD);
        Random random = new Random(9);
        for (int n = 0; n < 140; n++) {
            byte[] row = new byte[n];
            random.nextBytes(row);
            same("a sum of " + n, row, 1, 0, 1024);
        }
    }

    /** Literals alone, of as many kinds and numbers as there are heads for. */
    private static void literals() {
        int[] numbers = {5, 6, 7, 8, 31, 32, 33, 100, 1022, 1023, 1024, 1025, 1026, 1027, 1500, 4095, 4096, 4097, 7999, 8000};
        int[] different = {2, 3, 5, 16, 100, 200, 255, 256};
        for (int n : numbers) {
            for (int size : different) {
                Random random = new Random(n * 1000 + size);
                byte[] row = new byte[n];
                for (int i = 0; i < n; i++) {
                    int x = random.nextInt(size);
                    row[i] = (byte) (random.nextBoolean() ? x : random.nextInt(1 + x));
                }
                StatePress x = new StatePress();
                PlainPress plain = new PlainPress();
                plain.least = 8;
                x.rule(2, 8);
                same(n + " literals of " + size, x, plain, row, 4, 0, 8000);
            }
        }
        evenAndSteep();
        plainHeads();
        sameLiterals();
    }

    /** Literals as even as can be stand for themselves, and a copy behind them makes it worth packing. */
    private static void plainHeads() {
        int[] numbers = {31, 32, 33, 4095, 4096, 4097, 7900};
        for (int n : numbers) {
            Random random = new Random(n);
            byte[] row = new byte[n + 60];
            for (int i = 0; i < row.length; i++) {
                row[i] = i < n ? (byte) (random.nextInt(64) * 4 + i % 4) : row[i - n];
            }
            StatePress x = new StatePress();
            PlainPress plain = new PlainPress();
            plain.least = 8;
            x.rule(2, 8);
            same(n + " plain literals", x, plain, row, 4, 0, 8000);
            CHECKS.due(n + " plain literals, k 0", x.about(4), 1);
        }
    }

    /** One and the same byte between parts of the dictionary. */
    private static void sameLiterals() {
        int[] numbers = {1, 2, 3, 5, 31, 32, 33, 200};
        for (int n : numbers) {
            Random random = new Random(n);
            byte[] content = new byte[2000];
            for (int i = 0; i < content.length; i++) {
                content[i] = (byte) random.nextInt(255);
            }
            byte[] row = new byte[9 * n + 8];
            for (int i = 0; i < row.length; i++) {
                row[i] = i % 9 == 8 ? -1 : content[i / 9 * 97 % 1900 + i % 9];
            }
            StatePress x = new StatePress();
            Checks.feed(x, content);
            x.learn();
            PlainPress plain = new PlainPress();
            plain.book = FrameReader.book(content);
            same(n + " times the same literal", x, plain, row, 0, 3, 4096);
            CHECKS.due(n + " times the same literal, k 1", x.about(5), n == 1 ? 0 : 1);
        }
    }

    private static void evenAndSteep() {
        byte[] even = new byte[2048];
        for (int i = 0; i < even.length; i++) {
            even[i] = (byte) (i * (1 + i / 256 * 2));
        }
        same("256 literals as often each", even, 4, 0, 8000);
        // Counts that grow like Fibonacci's numbers want lengths above 11.
        StringBuilder text = new StringBuilder();
        int a = 1;
        int b = 1;
        for (int s = 0; s < 17; s++) {
            for (int i = 0; i < a; i++) {
                text.append((char) (200 - 3 * s));
            }
            b += a;
            a = b - a;
        }
        byte[] row = Checks.text(text.toString());
        Random random = new Random(4);
        for (int i = row.length - 1; i > 0; i--) {
            int j = random.nextInt(i + 1);
            byte spare = row[i];
            row[i] = row[j];
            row[j] = spare;
        }
        int[] counts = new int[256];
        for (byte one : row) {
            counts[one & 255]++;
        }
        CHECKS.due("lengths without MOST", PlainPress.top(PlainPress.lengthsByCounts(counts, 99)) > 11, true);
        StatePress x = new StatePress();
        PlainPress plain = new PlainPress();
        plain.least = 8;
        plain.way = 0;
        x.rule(0, 8);
        same("steep counts", x, plain, row, 4, 0, 8000);
    }

    private static void manySequences() {
        int[] numbers = {127, 128, 129, 255, 256, 700, 1500};
        for (int n : numbers) {
            Random random = new Random(n);
            byte[] row = new byte[4 * n + 64];
            for (int i = 0; i < row.length; i++) {
                row[i] = (byte) (i < 64 ? i : i % 4 == 0 ? 200 + i % 3 : row[i - 1 - random.nextInt(40)]);
            }
            for (int way = 0; way < 4; way++) {
                StatePress x = new StatePress();
                PlainPress plain = new PlainPress();
                plain.way = way;
                x.rule(way, 3);
                same("many sequences", x, plain, row, 4, 0, 8000);
            }
        }
        // Just 127 and 128 sequences: a run and a byte of its own, by turns.
        for (int n = 126; n < 131; n++) {
            byte[] row = new byte[8 * n];
            for (int i = 0; i < row.length; i++) {
                row[i] = (byte) (i % 8 < 4 ? 0 : i * 7 / 8 + i % 8 * 37);
            }
            same("just " + n, row, 4, 0, 8000);
        }
    }

    /** Codes, tables and latest distances go on from block to block, and come from a formed dictionary. */
    private static void keptStates() {
        int[] seen = new int[12];
        for (int seed = 0; seed < 60; seed++) {
            Random random = new Random(seed);
            byte[] first = Checks.row(random, 1200);
            StatePress x = new StatePress();
            PlainPress plain = new PlainPress();
            Checks.feed(x, first);
            if (x.make(seed) > 0) {
                plain.book = FrameReader.book(Checks.out(x));
                x.turn();
                x.learn();
            }
            byte[] row = Checks.row(new Random(seed), 1500);
            for (int cut = 30; cut < 1000; cut = cut * 3) {
                same("blocks of " + cut + ", seed " + seed, x, plain, row, 8, 1, cut);
                for (int what = 0; what < 12; what++) {
                    seen[what] += x.about(what);
                }
            }
        }
        for (int what = 0; what < 12; what++) {
            CHECKS.due("about(" + what + ") is seen", seen[what] > 0, true);
        }
    }

    /** A row that is found to be of kind 0 after all changes nothing for the rows behind it. */
    private static void rolledBack() {
        for (int seed = 0; seed < 200; seed++) {
            Random random = new Random(seed);
            byte[] row = new byte[400];
            for (int i = 0; i < row.length; i++) {
                row[i] = (byte) (i / 40 % 2 == 0 ? 'a' + random.nextInt(4) : random.nextInt(3) == 0 && i > 99 ? row[i - 99] : random.nextInt(200));
            }
            same("rows by turns " + seed, row, 0, 0, 20 + random.nextInt(30));
        }
    }
}
