import java.io.ByteArrayOutputStream;
import java.math.BigInteger;
import java.util.ArrayList;
import java.util.Arrays;
import java.util.List;

/** Reads frames and dictionaries, as the document says what they are; whatever is wrong in them throws. */
final class FrameReader {
    /** Why a dictionary is not one: the answer that learn() owes. */
    static final class Wrong extends RuntimeException {
        private static final long serialVersionUID = 1L;
        final int answer;

        Wrong(int answer, String why) {
            super(why);
            this.answer = answer;
        }
    }

    /** What a block is made of; -1 is what it has not. */
    static final class Block {
        int kind;
        /** The number of its head. */
        int size;
        int literalKind = -1;
        int literalShape = -1;
        int literals = -1;
        /** The first byte of its description. */
        int described = -1;
        /** How many bytes its four streams have. */
        int[] streams;
        int sequences = -1;
        /** Of literal lengths, distances, match lengths, as are the points of the tables. */
        int[] modes;
        int[][] points;
    }

    private final byte[] row;
    private int at;

    private FrameReader(byte[] row, int at) {
        this.row = row;
        this.at = at;
    }

    private static RuntimeException bad(String why) {
        return new Wrong(0, why);
    }

    private int one() {
        if (at >= row.length) {
            throw bad("the bytes end");
        }
        return row[at++] & 255;
    }

    private long number(int bytes) {
        long x = 0;
        for (int i = 0; i < bytes; i++) {
            x |= (long) one() << 8 * i;
        }
        return x;
    }

    private byte[] take(int n) {
        if (n < 0 || n > row.length - at) {
            throw bad("the bytes end");
        }
        at += n;
        return Arrays.copyOfRange(row, at - n, at);
    }

    // The wide sum, in numbers that know no end.

    private static final BigInteger ALL = BigInteger.ONE.shiftLeft(64);
    private static final BigInteger Q1 = new BigInteger("11400714785074694791");
    private static final BigInteger Q2 = new BigInteger("14029467366897019727");
    private static final BigInteger Q3 = new BigInteger("1609587929392839161");
    private static final BigInteger Q4 = new BigInteger("9650029242287828579");
    private static final BigInteger Q5 = new BigInteger("2870177450012600261");

    private static BigInteger rotated(BigInteger x, int by) {
        BigInteger y = x.mod(ALL);
        return y.shiftLeft(by).or(y.shiftRight(64 - by)).mod(ALL);
    }

    private static BigInteger unsigned(byte[] row, int at, int n) {
        BigInteger x = BigInteger.ZERO;
        for (int i = n - 1; i >= 0; i--) {
            x = x.shiftLeft(8).add(BigInteger.valueOf(row[at + i] & 255));
        }
        return x;
    }

    static BigInteger wideSum(byte[] row) {
        int at = 0;
        BigInteger h = Q5;
        if (row.length >= 32) {
            BigInteger[] lanes = {Q1.add(Q2), Q2, BigInteger.ZERO, Q1.negate()};
            for (; row.length - at >= 32; at += 32) {
                for (int i = 0; i < 4; i++) {
                    lanes[i] = rotated(lanes[i].add(unsigned(row, at + 8 * i, 8).multiply(Q2)), 31).multiply(Q1).mod(ALL);
                }
            }
            h = rotated(lanes[0], 1).add(rotated(lanes[1], 7)).add(rotated(lanes[2], 12)).add(rotated(lanes[3], 18)).mod(ALL);
            for (BigInteger lane : lanes) {
                h = h.xor(rotated(lane.multiply(Q2), 31).multiply(Q1).mod(ALL)).multiply(Q1).add(Q4).mod(ALL);
            }
        }
        h = h.add(BigInteger.valueOf(row.length)).mod(ALL);
        for (; row.length - at >= 8; at += 8) {
            h = h.xor(rotated(unsigned(row, at, 8).multiply(Q2), 31).multiply(Q1).mod(ALL));
            h = rotated(h, 27).multiply(Q1).add(Q4).mod(ALL);
        }
        if (row.length - at >= 4) {
            h = rotated(h.xor(unsigned(row, at, 4).multiply(Q1).mod(ALL)), 23).multiply(Q2).add(Q3).mod(ALL);
            at += 4;
        }
        for (; at < row.length; at++) {
            h = rotated(h.xor(unsigned(row, at, 1).multiply(Q5).mod(ALL)), 11).multiply(Q1).mod(ALL);
        }
        h = h.xor(h.shiftRight(33)).multiply(Q2).mod(ALL);
        h = h.xor(h.shiftRight(29)).multiply(Q3).mod(ALL);
        return h.xor(h.shiftRight(32));
    }

    // Streams: the bits below the END, read from the top.

    private static final class Down {
        final byte[] row;
        final int floor;
        int at;

        Down(byte[] row, int from, int to) {
            this.row = row;
            floor = 8 * from;
            if (to <= from || row[to - 1] == 0) {
                throw bad("no stream");
            }
            at = 8 * (to - 1) + 31 - Integer.numberOfLeadingZeros(row[to - 1] & 255);
        }

        int left() {
            return at - floor;
        }

        int look(int n) {
            int x = 0;
            for (int i = 0; i < n; i++) {
                int bit = at - 1 - i;
                x = 2 * x + (bit < floor ? 0 : row[bit / 8] >> bit % 8 & 1);
            }
            return x;
        }

        int read(int n) {
            if (n > left()) {
                throw bad("the bits end");
            }
            int x = look(n);
            at -= n;
            return x;
        }
    }

    // Shares and descriptions.

    private int[] share(int to, int greatest, int last) {
        int bit = 8 * at;
        int[] points = new int[last + 1];
        int order = 5 + up(bit, 4, to);
        bit += 4;
        if (order > greatest) {
            throw bad("order");
        }
        int lack = 1 << order;
        int s = 0;
        while (lack > 0) {
            if (s > last) {
                throw bad("symbols end");
            }
            int t = Integer.highestOneBit(lack + 1);
            int m = 2 * t - 2 - lack;
            int n = Integer.bitCount(t - 1);
            int u = up(bit, n, to);
            bit += n;
            if (u >= m) {
                u += up(bit++, 1, to) << n;
                u -= u >= t ? m : 0;
            }
            points[s++] = u - 1;
            lack -= Math.abs(u - 1);
            if (u == 1) {
                int more;
                do {
                    more = up(bit, 2, to);
                    bit += 2;
                    s += more;
                    if (s > last + 1) {
                        throw bad("zeros beyond the last");
                    }
                } while (more == 3);
            }
        }
        at = (bit + 7) / 8;
        return points;
    }

    private int up(int bit, int n, int to) {
        if (bit + n > 8 * to) {
            throw bad("the bits end");
        }
        int x = 0;
        for (int i = 0; i < n; i++) {
            x |= (row[(bit + i) / 8] >> (bit + i) % 8 & 1) << i;
        }
        return x;
    }

    /** The lengths of the codes. */
    private int[] description() {
        int x = one();
        List<Integer> weights = new ArrayList<>();
        if (x > 127) {
            byte[] pairs = take((x - 127 + 1) / 2);
            for (int i = 0; i < x - 127; i++) {
                weights.add(i % 2 == 0 ? pairs[i / 2] >> 4 & 15 : pairs[i / 2] & 15);
            }
        } else {
            int to = at + x;
            if (to > row.length) {
                throw bad("the bytes end");
            }
            PlainPress.Table table = new PlainPress.Table(share(to, 6, 11));
            Down down = new Down(row, at, to);
            int[] states = {down.read(table.order), down.read(table.order)};
            for (int turn = 0;; turn = 1 - turn) {
                int place = states[turn];
                weights.add(table.symbol[place]);
                if (weights.size() > 255) {
                    throw bad("too many weights");
                }
                if (down.left() < table.width[place]) {
                    weights.add(table.symbol[states[1 - turn]]);
                    break;
                }
                states[turn] = table.base[place] + down.read(table.width[place]);
            }
            at = to;
        }
        return lengths(weights);
    }

    private static int[] lengths(List<Integer> weights) {
        long sum = 0;
        for (int w : weights) {
            sum += w > 0 ? 1L << (w - 1) : 0;
        }
        int top = 0;
        while (1L << top <= sum) {
            top++;
        }
        long rest = (1L << top) - sum;
        if (weights.size() > 255 || sum == 0 || top > 11 || Long.bitCount(rest) != 1) {
            throw bad("weights");
        }
        weights.add(1 + Long.numberOfTrailingZeros(rest));
        int[] lengths = new int[256];
        int ones = 0;
        for (int i = 0; i < weights.size(); i++) {
            int w = weights.get(i);
            lengths[i] = w > 0 ? top + 1 - w : 0;
            ones += w == 1 ? 1 : 0;
        }
        if (ones < 2) {
            throw bad("weights of 1");
        }
        return lengths;
    }

    /** The dictionary that these bytes are; what is wrong throws with the answer of learn(). */
    static PlainPress.Book book(byte[] row) {
        PlainPress.Book book = new PlainPress.Book();
        FrameReader reader = new FrameReader(row, 0);
        if (row.length < 4 || reader.number(4) != 0xEC30A437L) {
            book.content = row.clone();
            return book;
        }
        if (row.length < 8) {
            throw new Wrong(-1, "no id");
        }
        book.id = reader.number(4);
        try {
            book.lengths = reader.description();
        } catch (Wrong e) {
            throw new Wrong(-2, e.getMessage());
        }
        try {
            for (int kind : new int[] {1, 2, 0}) {
                book.tables[kind] = reader.share(row.length, PlainPress.GREATEST[kind], PlainPress.LAST[kind]);
            }
        } catch (Wrong e) {
            throw new Wrong(-3, e.getMessage());
        }
        if (row.length - reader.at < 12) {
            throw new Wrong(-1, "no distances");
        }
        long[] distances = {reader.number(4), reader.number(4), reader.number(4)};
        book.content = reader.take(row.length - reader.at);
        for (int i = 0; i < 3; i++) {
            if (distances[i] == 0 || distances[i] > book.content.length) {
                throw new Wrong(-4, "distance");
            }
            book.latest[i] = (int) distances[i];
        }
        return book;
    }

    // Frames.

    private int[] codes;
    private final int[][] tables = new int[3][];
    private int[] latest;
    private byte[] before;
    private final ByteArrayOutputStream content = new ByteArrayOutputStream();
    private long window;

    private final List<int[]> copies = new ArrayList<>();
    private final List<Block> blocks = new ArrayList<>();
    private Block now;

    static List<Block> blocks(byte[] frame, PlainPress.Book book) {
        return read(frame, book).blocks;
    }

    /** The content of a frame. */
    static byte[] content(byte[] frame, PlainPress.Book book) {
        return read(frame, book).content.toByteArray();
    }

    /** The sequences of a frame: literal length, distance, match length, one behind the other. */
    static List<Integer> copies(byte[] frame, PlainPress.Book book) {
        List<Integer> all = new ArrayList<>();
        for (int[] copy : read(frame, book).copies) {
            all.addAll(List.of(copy[0], copy[1], copy[2]));
        }
        return all;
    }

    /** The numbers by which the distances of a frame are told. */
    static List<Integer> tellings(byte[] frame, PlainPress.Book book) {
        List<Integer> all = new ArrayList<>();
        for (int[] copy : read(frame, book).copies) {
            all.add(copy[3]);
        }
        return all;
    }

    private static FrameReader read(byte[] frame, PlainPress.Book book) {
        FrameReader reader = new FrameReader(frame, 0);
        reader.codes = book.lengths;
        System.arraycopy(book.tables, 0, reader.tables, 0, 3);
        reader.latest = book.latest.clone();
        reader.before = book.content;
        reader.frame(book.id);
        if (reader.at != frame.length) {
            throw bad("bytes behind the frame");
        }
        return reader;
    }

    private void frame(long id) {
        if (number(4) != 0xFD2FB528L) {
            throw bad("no frame");
        }
        int head = one();
        boolean single = (head & 32) != 0;
        if ((head & 24) != 0) {
            throw bad("head");
        }
        if (!single) {
            int x = one();
            window = (1L << 10 + x / 8) + (1L << 7 + x / 8) * (x % 8);
        }
        int[] ids = {0, 1, 2, 4};
        long told = number(ids[head & 3]);
        if (told != 0 && told != id) {
            throw bad("another dictionary");
        }
        int f = head >> 6;
        boolean sized = single || f > 0;
        int[] sizes = {single ? 1 : 0, 2, 4, 8};
        long size = number(sizes[f]) + (f == 1 ? 256 : 0);
        window = single ? size : window;
        boolean last = false;
        while (!last) {
            last = block();
        }
        byte[] all = content.toByteArray();
        if (sized && all.length != size) {
            throw bad("size");
        }
        if ((head & 4) != 0 && (wideSum(all).longValue() & 0xFFFFFFFFL) != number(4)) {
            throw bad("sum");
        }
    }

    private boolean block() {
        int head = (int) number(3);
        int n = head >> 3;
        if (n > Math.min(131072, window)) {
            throw bad("a block too large");
        }
        int kind = head >> 1 & 3;
        now = new Block();
        now.kind = kind;
        now.size = n;
        blocks.add(now);
        if (kind == 0) {
            content.writeBytes(take(n));
        } else if (kind == 1) {
            int b = one();
            for (int i = 0; i < n; i++) {
                content.write(b);
            }
        } else if (kind == 2) {
            int end = at + n;
            sequences(literals(), end);
            if (at != end) {
                throw bad("a block's end");
            }
        } else {
            throw bad("kind 3");
        }
        return (head & 1) == 1;
    }

    private byte[] literals() {
        int h = one();
        int k = h & 3;
        int l = h >> 2 & 3;
        at--;
        now.literalKind = k;
        now.literalShape = l;
        if (k < 2) {
            int n = (l & 1) == 0 ? one() / 8 : (int) number(l == 1 ? 2 : 3) / 16;
            now.literals = n;
            byte[] all = new byte[n];
            if (k == 0) {
                return take(n);
            }
            Arrays.fill(all, (byte) one());
            return all;
        }
        long head = number(l < 2 ? 3 : l + 2);
        int bits = l < 2 ? 10 : l == 2 ? 14 : 18;
        int n = (int) (head >> 4) & (1 << bits) - 1;
        int end = at + (int) (head >> 4 + bits & (1 << bits) - 1);
        now.literals = n;
        if (k == 2) {
            now.described = row[at] & 255;
            codes = description();
        }
        if (codes == null) {
            throw bad("no codes");
        }
        byte[] all = l == 0 ? stream(n, end) : fourStreams(n, end);
        at = end;
        return all;
    }

    private byte[] fourStreams(int n, int end) {
        int[] lengths = {(int) number(2), (int) number(2), (int) number(2)};
        int c = (n + 3) / 4;
        now.streams = new int[] {lengths[0], lengths[1], lengths[2], end - at - lengths[0] - lengths[1] - lengths[2]};
        byte[] all = new byte[0];
        for (int i = 0; i < 3; i++) {
            all = PlainPress.join(all, stream(c, at + lengths[i]));
        }
        return PlainPress.join(all, stream(n - 3 * c, end));
    }

    private byte[] stream(int n, int end) {
        int[] cells = PlainPress.cells(codes);
        int top = PlainPress.top(codes);
        Down down = new Down(row, at, end);
        byte[] all = new byte[n];
        for (int i = 0; i < n; i++) {
            int s = cells[down.look(top)];
            all[i] = (byte) s;
            down.read(codes[s]);
        }
        if (down.left() != 0) {
            throw bad("bits are left");
        }
        at = end;
        return all;
    }

    private void sequences(byte[] literals, int end) {
        int x = one();
        int n = x < 128 ? x : x < 255 ? 256 * (x - 128) + one() : (int) number(2) + 32512;
        int taken = 0;
        now.sequences = n;
        if (n > 0) {
            int modes = one();
            now.modes = new int[] {modes >> 6, modes >> 4 & 3, modes >> 2 & 3};
            PlainPress.Table[] three = new PlainPress.Table[3];
            for (int kind = 0; kind < 3; kind++) {
                table(kind, modes >> (6 - 2 * kind) & 3, end);
                three[kind] = new PlainPress.Table(tables[kind]);
            }
            now.points = tables.clone();
            if ((modes & 3) != 0) {
                throw bad("modes");
            }
            Down down = new Down(row, at, end);
            int[] states = new int[3];
            for (int kind = 0; kind < 3; kind++) {
                states[kind] = down.read(three[kind].order);
            }
            int[] values = new int[3];
            for (int i = 0; i < n; i++) {
                for (int kind : new int[] {1, 2, 0}) {
                    int s = three[kind].symbol[states[kind]];
                    values[kind] = PlainPress.base(kind, s) + down.read(PlainPress.width(kind, s));
                }
                for (int kind : i + 1 < n ? new int[] {0, 2, 1} : new int[0]) {
                    int place = states[kind];
                    states[kind] = three[kind].base[place] + down.read(three[kind].width[place]);
                }
                content.write(literals, taken, values[0]);
                taken += values[0];
                copy(values[0], values[1], values[2]);
            }
            if (down.left() != 0) {
                throw bad("bits are left");
            }
            at = end;
        }
        content.write(literals, taken, literals.length - taken);
    }

    private void table(int kind, int mode, int end) {
        if (mode == 0) {
            tables[kind] = PlainPress.KNOWN[kind];
        } else if (mode == 1) {
            int s = one();
            tables[kind] = new int[s + 1];
            tables[kind][s] = 1;
        } else if (mode == 2) {
            tables[kind] = share(end, PlainPress.GREATEST[kind], PlainPress.LAST[kind]);
        } else if (tables[kind] == null) {
            throw bad("no table");
        }
    }

    private void copy(int literalLength, int v, int matchLength) {
        int distance = PlainPress.said(v, literalLength, latest);
        PlainPress.change(v, literalLength, latest);
        copies.add(new int[] {literalLength, distance, matchLength, v});
        int sofar = content.size();
        if (distance < 1 || distance > sofar + before.length || distance > window) {
            throw bad("too far");
        }
        byte[] all = PlainPress.join(before, content.toByteArray(), new byte[matchLength]);
        int p = before.length + sofar;
        for (int i = 0; i < matchLength; i++) {
            all[p + i] = all[p + i - distance];
        }
        content.write(all, p, matchLength);
    }
}
