import java.util.Arrays;
import java.util.Random;

/** Promises 7 and 8: learn, forget. */
public final class LearnTest {
    private static final Checks CHECKS = new Checks();
    private static final byte[] MARK = Books.MARK;
    private static final byte[] ID = Books.ID;
    private static final byte[] CODES = Books.CODES;
    private static final byte[] SHARE = Books.SHARE;
    private static final byte[] SHARES = Books.SHARES;
    private static final byte[] LATEST = Books.LATEST;
    private static final byte[] CONTENT = Books.CONTENT;

    public static void main(String[] args) {
        plain();
        formed();
        descriptions();
        shares();
        distances();
        mutated();
        forget();
        CHECKS.end();
    }

    private static byte[] join(byte[]... rows) {
        return PlainPress.join(rows);
    }

    private static void learns(String name, byte[] row, int want) {
        Books.learns(CHECKS, name, row, want);
    }

    private static void plain() {
        learns("learn() of nothing", new byte[0], 0);
        learns("learn() of a byte", Checks.bytes(55), 1);
        learns("learn() of almost a mark", Arrays.copyOf(MARK, 3), 3);
        learns("learn() of another mark", Checks.bytes(55, 164, 48, 235, 0, 0, 0, 0), 8);
        learns("learn() of a text", Checks.text("content!content!"), 16);
        byte[] full = Checks.row(new Random(3), 8000);
        learns("learn() of 8,000", full, 8000);
    }

    private static void formed() {
        learns("a formed one", join(MARK, ID, CODES, SHARES, LATEST, CONTENT), 8);
        for (int n = 4; n < 8; n++) {
            learns("an end within the ID", Arrays.copyOf(join(MARK, ID), n), -1);
        }
        byte[] told = join(MARK, ID, CODES, SHARES, LATEST);
        for (int n = 8; n < told.length; n++) {
            int want = n < 10 ? -2 : n < 10 + SHARES.length ? -3 : -1;
            learns("an end at " + n, Arrays.copyOf(told, n), want);
        }
        learns("no content", told, -4);
        learns("content of 7", join(told, Arrays.copyOf(CONTENT, 7)), -4);
        ids();
    }

    private static void ids() {
        long[] ids = {0, 1, 255, 256, 65535, 65536, 0x7FFFFFFFL, 0x80000000L, 0xFFFFFFFFL};
        int[] bytes = {0, 1, 1, 2, 2, 4, 4, 4, 4};
        for (int i = 0; i < ids.length; i++) {
            StatePress x = new StatePress();
            Checks.feed(x, join(MARK, PlainPress.number(ids[i], 4), CODES, SHARES, LATEST, CONTENT));
            x.learn();
            CHECKS.due("a frame with ID " + ids[i], x.press(8, 0, 1), 9 + bytes[i]);
            CHECKS.due("its head", x.byteAt(4), bytes[i] == 4 ? 3 : bytes[i]);
            for (int k = 0; k < bytes[i]; k++) {
                CHECKS.due("byte " + k + " of ID " + ids[i], x.byteAt(6 + k), ids[i] >> 8 * k & 255);
            }
            CHECKS.due("a frame without ID " + ids[i], x.press(0, 0, 1), 9);
        }
    }

    private static void described(String name, boolean right, int... description) {
        learns(name, join(MARK, ID, Checks.bytes(description), SHARES, LATEST, CONTENT), right ? 8 : -2);
    }

    private static void descriptions() {
        described("weights 1 and 1", true, 128, 0x10);
        described("the lower four bits of an odd end count for nothing", true, 128, 0x1F);
        described("a sum of 0", false, 128, 0x00);
        described("only one weight of 1", false, 128, 0x20);
        described("weights 1, 1 and 2", true, 129, 0x11);
        described("weights 2, 1 and 1", true, 129, 0x21);
        described("a rest that is no power of two", false, 129, 0x31);
        described("T of 11", true, 127 + 12, 0x11, 0x23, 0x45, 0x67, 0x89, 0xA0);
        described("T above 11", false, 127 + 12, 0x11, 0x23, 0x45, 0x67, 0x89, 0xAB);
        described("a weight of 12", false, 129, 0xC1);
        described("a weight of 15", false, 129, 0xF1);
        described("no bytes by states", false, 0);
        described("a share that is not whole", false, 1, 0x00);
        byte[] share = PlainPress.told(new int[] {16, 16});
        described("no byte for the stream", false, 2, share[0], share[1]);
        described("a stream that ends in 0", false, 4, share[0], share[1], 0x55, 0x00);
        described("a stream of nine bits", false, 4, share[0], share[1], 0xFF, 0x03);
        described("an order of 7", false, 4, share[0] & 0xF0 | 2, share[1], 0xFF, 0x07);
        byte[] beyond = PlainPress.told(new int[] {0, 0, 0, 0, 0, 0, 0, 0, 0, 0, 0, 0, 32});
        byte[] row = join(PlainPress.number(beyond.length + 2, 1), beyond, Checks.bytes(0xFF, 0x07));
        learns("a weight above 11 in a share", join(MARK, ID, row, SHARES, LATEST, CONTENT), -2);
        byte[] alone = PlainPress.told(new int[] {0, 32});
        row = join(PlainPress.number(alone.length + 2, 1), alone, Checks.bytes(0xFF, 0x07));
        learns("weights without an end", join(MARK, ID, row, SHARES, LATEST, CONTENT), -2);
        byStates();
    }

    /** Codes for up to 256 symbols, told by states as make() tells them. */
    private static void byStates() {
        for (int k = 4; k < 256; k += 1 + k / 16) {
            int[] counts = new int[256];
            for (int s = 0; s <= k; s++) {
                counts[s] = 1 + s * s % 13 * (s % 3);
            }
            byte[] description = PlainPress.description(PlainPress.lengthsByCounts(counts, 11));
            learns("codes up to " + k, join(MARK, ID, description, SHARES, LATEST, CONTENT), 8);
            learns("an end within codes up to " + k,
                Arrays.copyOf(join(MARK, ID, description), 7 + description.length), -2);
        }
        int[] counts = new int[256];
        Arrays.fill(counts, 1, 256, 3);
        counts[7] = 400;
        byte[] most = PlainPress.description(PlainPress.lengthsByCounts(counts, 11));
        CHECKS.due("by states", most[0] > 0, true);
        learns("255 weights", join(MARK, ID, most, SHARES, LATEST, CONTENT), 8);
    }

    private static void shared(String name, int which, byte[] share, int want) {
        byte[][] three = {SHARE, SHARE, SHARE};
        three[which] = share;
        learns(name + " in share " + which, join(MARK, ID, CODES, three[0], three[1], three[2], LATEST, CONTENT), want);
    }

    private static int[] points(int zeros, int order) {
        int[] points = new int[zeros + 2];
        points[zeros] = (1 << order) - 1;
        points[zeros + 1] = -1;
        return points;
    }

    private static void shares() {
        int[] orders = {8, 9, 9};
        int[] lasts = {31, 52, 35};
        for (int i = 0; i < 3; i++) {
            for (int order = 5; order <= 11; order++) {
                shared("order " + order, i, PlainPress.told(points(3, order)), order <= orders[i] ? 8 : -3);
            }
            for (int zeros = lasts[i] - 7; zeros < lasts[i] + 6; zeros++) {
                shared("zeros " + zeros, i, PlainPress.told(points(zeros, 5)), zeros + 1 <= lasts[i] ? 8 : -3);
            }
            int[] lacking = new int[lasts[i] + 2];
            Arrays.fill(lacking, -1);
            lacking[lasts[i] + 1] = 64 - lasts[i] - 1;
            shared("something that lacks at the last", i, PlainPress.told(lacking), -3);
            lacking = Arrays.copyOf(lacking, lasts[i] + 1);
            lacking[lasts[i]] = 64 - lasts[i];
            shared("nothing that lacks at the last", i, PlainPress.told(lacking), 8);
        }
    }

    private static void distances() {
        long[] bad = {0, 9, 256, 0x80000000L, 0xFFFFFFFFL, 0x100000008L >> 4};
        for (int i = 0; i < 3; i++) {
            for (long distance : bad) {
                byte[] row = join(MARK, ID, CODES, SHARES, LATEST, CONTENT);
                System.arraycopy(PlainPress.number(distance, 4), 0, row, 10 + SHARES.length + 4 * i, 4);
                learns("distance " + distance, row, -4);
            }
            byte[] row = join(MARK, ID, CODES, SHARES, LATEST, CONTENT);
            System.arraycopy(PlainPress.number(8, 4), 0, row, 10 + SHARES.length + 4 * i, 4);
            learns("a distance of all the content", row, 8);
        }
    }

    private static int answer(byte[] row) {
        try {
            return FrameReader.book(row).content.length;
        } catch (FrameReader.Wrong e) {
            return e.answer;
        }
    }

    /** Made ones with bytes changed, or cut off. */
    private static void mutated() {
        int[] seen = new int[5];
        for (int i = 0; i < 6000; i++) {
            Random random = new Random(i);
            StatePress x = new StatePress();
            Checks.feed(x, Checks.row(random, 8 + random.nextInt(300)));
            if (x.make(i) < 0) {
                continue;
            }
            byte[] row = Checks.out(x);
            int told = row.length - 8;
            for (int j = random.nextInt(3); j >= 0; j--) {
                row[4 + random.nextInt(Math.min(told - 4, random.nextBoolean() ? 20 : 90))] ^= (byte) (1 << random.nextInt(8));
            }
            if (random.nextInt(4) == 0) {
                row = Arrays.copyOf(row, 4 + random.nextInt(Math.min(row.length - 4, 80)));
            }
            int want = answer(row);
            seen[Math.max(0, -want)]++;
            Checks.feed(x, row);
            CHECKS.due("learn() of mutated " + i, x.learn(), want);
            if (want >= 0) {
                PlainPress plain = new PlainPress();
                plain.book = FrameReader.book(row);
                byte[] in = Checks.row(random, random.nextInt(200));
                Checks.feed(x, in);
                x.press(9, 0, 1024);
                CHECKS.due("press() after mutated " + i, Checks.out(x), plain.press(in, 9, 0, 1024));
            }
        }
        for (int i = 0; i < 5; i++) {
            CHECKS.due("each answer comes, -" + i, seen[i] > 20, true);
        }
    }

    private static void forget() {
        StatePress x = new StatePress();
        x.forget();
        byte[] row = Checks.text("content!content!0101010");
        Checks.feed(x, row);
        x.press(8, 0, 1024);
        byte[] without = Checks.out(x);
        CHECKS.due("forget() without a dictionary", without, new PlainPress().press(row, 8, 0, 1024));
        Checks.feed(x, join(MARK, ID, CODES, SHARES, LATEST, CONTENT));
        CHECKS.due("learn()", x.learn(), 8);
        Checks.feed(x, row);
        x.press(8, 0, 1024);
        byte[] with = Checks.out(x);
        CHECKS.due("a dictionary changes the frame", Arrays.equals(with, without), false);
        x.forget();
        CHECKS.due("forget() lets OUT be", Checks.out(x), with);
        x.press(8, 0, 1024);
        CHECKS.due("forget() lets IN be, and the dictionary go", Checks.out(x), without);
        forgetForms();
    }

    /** The same row, with all that it would make told already, and then not any more. */
    private static void forgetForms() {
        byte[] row = Checks.row(new Random(30), 900);
        StatePress x = new StatePress();
        Checks.feed(x, row);
        x.press(0, 3, 8000);
        byte[] without = Checks.out(x);
        CHECKS.due("make()", x.make(9) > 0, true);
        byte[] book = Checks.out(x);
        Checks.feed(x, join(Arrays.copyOf(book, book.length - row.length), CONTENT));
        CHECKS.due("learn()", x.learn(), 8);
        Checks.feed(x, row);
        x.press(0, 3, 8000);
        CHECKS.due("codes and tables of before", x.about(7) + x.about(11), 4);
        x.forget();
        x.press(0, 3, 8000);
        CHECKS.due("codes and tables are forgotten", x.about(7) + x.about(11), 0);
        CHECKS.due("the frame without them", Checks.out(x), without);
        // A plain one has none of them either, whatever was learned before it.
        for (int i = 0; i < 2; i++) {
            Checks.feed(x, join(Arrays.copyOf(book, book.length - row.length), CONTENT));
            CHECKS.due("learn()", x.learn(), 8);
        }
        Checks.feed(x, Arrays.copyOf(book, book.length - row.length));
        CHECKS.due("learn() of one without content", x.learn(), -4);
        x.clear();
        CHECKS.due("learn() of nothing", x.learn(), 0);
        Checks.feed(x, row);
        x.press(0, 3, 8000);
        CHECKS.due("the frame with a plain one of no bytes", Checks.out(x), without);
    }
}
