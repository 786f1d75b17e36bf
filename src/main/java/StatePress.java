import java.util.Arrays;

/**
 * Packs bytes into frames of copies, prefixes and states, by rules that leave no choice.
 * The words in the comments (row, share, points, places, knots ..) are those of the document.
 */
public final class StatePress {
    private static final int MOST_IN = 8000;
    private static final int MOST_OUT = 12000;
    private static final int MOST_DATA = 16000;
    /** A sequence takes at least three bytes of a row. */
    private static final int MOST_SEQUENCES = 2667;

    private static final int SUMMED = 1;
    private static final int SIZED = 2;
    private static final int SINGLE = 4;
    private static final int NAMED = 8;

    private static final long FRAME_MARK = 0xFD2FB528L;
    private static final long BOOK_MARK = 0xEC30A437L;

    private static final int LEAST_ORDER = 5;
    private static final int LITERAL_ORDER = 9;
    private static final int DISTANCE_ORDER = 8;
    private static final int MATCH_ORDER = 9;
    private static final int WEIGHT_ORDER = 6;
    private static final int LITERAL_LAST = 35;
    private static final int DISTANCE_LAST = 31;
    private static final int MATCH_LAST = 52;
    private static final int WEIGHT_LAST = 11;
    private static final int MOST_LENGTH = 11;

    private static final int[] LITERAL_KNOWN = {
        4, 3, 2, 2, 2, 2, 2, 2, 2, 2, 2, 2, 2, 1, 1, 1, 2, 2, 2, 2, 2, 2, 2, 2, 2, 3, 2,
        1, 1, 1, 1, 1, -1, -1, -1, -1};
    private static final int[] DISTANCE_KNOWN = {
        1, 1, 1, 1, 1, 1, 2, 2, 2, 1, 1, 1, 1, 1, 1, 1, 1, 1, 1, 1, 1, 1, 1, 1,
        -1, -1, -1, -1, -1};
    private static final int[] MATCH_KNOWN = {
        1, 4, 3, 2, 2, 2, 2, 2, 2, 1, 1, 1, 1, 1, 1, 1, 1, 1, 1, 1, 1, 1, 1, 1, 1, 1, 1,
        1, 1, 1, 1, 1, 1, 1, 1, 1, 1, 1, 1, 1, 1, 1, 1, 1, 1, 1, -1, -1, -1, -1, -1, -1, -1};
    private static final int LITERAL_KNOWN_ORDER = 6;
    private static final int DISTANCE_KNOWN_ORDER = 5;
    private static final int MATCH_KNOWN_ORDER = 6;

    private static final int[] LITERAL_BASES = {
        0, 1, 2, 3, 4, 5, 6, 7, 8, 9, 10, 11, 12, 13, 14, 15, 16, 18, 20, 22, 24, 28, 32, 40,
        48, 64, 128, 256, 512, 1024, 2048, 4096, 8192, 16384, 32768, 65536};
    private static final int[] LITERAL_WIDTHS = {
        0, 0, 0, 0, 0, 0, 0, 0, 0, 0, 0, 0, 0, 0, 0, 0, 1, 1, 1, 1, 2, 2, 3, 3,
        4, 6, 7, 8, 9, 10, 11, 12, 13, 14, 15, 16};
    /** Data has 16,000 bytes at most, so that no distance comes near the symbols left out here. */
    private static final int[] DISTANCE_BASES = {
        1, 2, 4, 8, 16, 32, 64, 128, 256, 512, 1024, 2048, 4096, 8192, 16384, 32768, 65536};
    private static final int[] DISTANCE_WIDTHS = {
        0, 1, 2, 3, 4, 5, 6, 7, 8, 9, 10, 11, 12, 13, 14, 15, 16};
    private static final int[] MATCH_BASES = {
        3, 4, 5, 6, 7, 8, 9, 10, 11, 12, 13, 14, 15, 16, 17, 18, 19, 20, 21, 22, 23, 24, 25, 26,
        27, 28, 29, 30, 31, 32, 33, 34, 35, 37, 39, 41, 43, 47, 51, 59, 67, 83, 99, 131, 259,
        515, 1027, 2051, 4099, 8195, 16387, 32771, 65539};
    private static final int[] MATCH_WIDTHS = {
        0, 0, 0, 0, 0, 0, 0, 0, 0, 0, 0, 0, 0, 0, 0, 0, 0, 0, 0, 0, 0, 0, 0, 0,
        0, 0, 0, 0, 0, 0, 0, 0, 1, 1, 1, 1, 2, 2, 3, 3, 4, 4, 5, 7, 8,
        9, 10, 11, 12, 13, 14, 15, 16};

    /** What about() can be asked, each the place of its count. */
    private static final int ABOUTS = 12;
    private static final int OF_KIND = 0;
    private static final int OF_SEQUENCES = 3;
    private static final int OF_LITERALS = 4;
    private static final int OF_MODE = 8;

    private final Row in;
    private Row out;
    /** What is being written: it becomes OUT only when it is whole. */
    private Row next;
    private final Row content;
    private long id;
    private Start start;
    /** What is being read of a dictionary: it becomes the start only when it is right. */
    private Start draft;
    private final Description description;
    private final Packer packer;
    private final int[] abouts;
    private int way;
    private int least;

    public StatePress() {
        in = new Row(MOST_IN);
        out = new Row(MOST_OUT);
        next = new Row(MOST_OUT);
        content = new Row(MOST_IN);
        start = new Start();
        draft = new Start();
        description = new Description();
        packer = new Packer(description);
        abouts = new int[ABOUTS];
        way = 2;
        least = 3;
    }

    public boolean write(long eight, int n) {
        if (n < 1 || n > 8 || in.used + n > MOST_IN) {
            return false;
        }
        for (int i = 0; i < n; i++) {
            in.put((int) (eight >>> (56 - 8 * i)));
        }
        return true;
    }

    public boolean again(int m, int n) {
        if (m < 1 || m > in.used || n < 0 || in.used + (long) m * n > MOST_IN) {
            return false;
        }
        int more = m * n;
        for (int i = 0; i < more; i++) {
            in.put(in.at(in.used - m));
        }
        return true;
    }

    public void clear() {
        in.drop();
    }

    public boolean turn() {
        if (out.used > MOST_IN) {
            return false;
        }
        in.drop();
        in.putRow(out, 0, out.used);
        return true;
    }

    public boolean rule(int way, int least) {
        if (way < 0 || way > 3 || least < 3 || least > 8) {
            return false;
        }
        this.way = way;
        this.least = least;
        return true;
    }

    public int learn() {
        boolean formed = in.used >= 4 && in.number(0, 4) == BOOK_MARK;
        draft.empty();
        int from = formed ? draft.readFrom(in, description) : 0;
        if (from < 0) {
            return from;
        }
        id = formed ? in.number(4, 4) : 0;
        Start spare = start;
        start = draft;
        draft = spare;
        content.drop();
        content.putRow(in, from, in.used);
        in.drop();
        return content.used;
    }

    public void forget() {
        content.drop();
        start.empty();
        id = 0;
    }

    public int press(int flags, int e, int cut) {
        if (flags < 0 || flags > 15 || e < 0 || e > 11 || cut < 1 || cut > MOST_IN) {
            return -1;
        }
        boolean single = (flags & SINGLE) != 0;
        if (!single && cut > 1 << (10 + e)) {
            return -1;
        }
        next.drop();
        putHead(flags, e);
        packer.begin(start);
        packer.finder.load(content, in);
        packer.finder.obey(way, least, single ? in.used : 1 << (10 + e));
        int end = content.used + in.used;
        int from = content.used;
        // An empty IN has one row, too, and behind what does not fit nothing need be packed.
        do {
            int to = Math.min(from + cut, end);
            packer.putBlock(next, from, to, to == end);
            from = to;
        } while (from < end && !next.spilled);
        if ((flags & SUMMED) != 0) {
            next.putNumber(WideSum.of(in), 4);
        }
        if (next.spilled) {
            return -1;
        }
        System.arraycopy(packer.tally, 0, abouts, 0, ABOUTS);
        return becomeOut();
    }

    public int make(int id) {
        if (in.used < 8) {
            return -1;
        }
        draft.empty();
        packer.begin(draft);
        packer.finder.load(draft.nothing, in);
        packer.finder.obey(way, least, MOST_DATA);
        packer.go(0, in.used);
        if (packer.sequences() == 0 || !packer.literals.renew()) {
            return -1;
        }
        next.drop();
        next.putNumber(BOOK_MARK, 4);
        next.putNumber(id, 4);
        packer.putForms(next);
        for (int i = 0; i < draft.latest.length; i++) {
            next.putNumber(draft.latest[i], 4);
        }
        next.putRow(in, 0, in.used);
        return next.spilled ? -1 : becomeOut();
    }

    public int about(int what) {
        return what >= 0 && what < abouts.length ? abouts[what] : -1;
    }

    public int size() {
        return out.used;
    }

    public int byteAt(int k) {
        return out.at(k);
    }

    private int becomeOut() {
        Row spare = out;
        out = next;
        next = spare;
        return out.used;
    }

    private void putHead(int flags, int e) {
        boolean single = (flags & SINGLE) != 0;
        boolean sized = single || (flags & SIZED) != 0;
        int sizeKind = sized ? sizeKind(in.used, single) : 0;
        int idKind = (flags & NAMED) != 0 ? idKind(id) : 0;
        next.putNumber(FRAME_MARK, 4);
        next.put(64 * sizeKind + (single ? 32 : 0) + ((flags & SUMMED) != 0 ? 4 : 0) + idKind);
        if (!single) {
            next.put(8 * e);
        }
        next.putNumber(id, idKind == 3 ? 4 : idKind);
        if (sized) {
            next.putNumber(sizeKind == 1 ? in.used - 256 : in.used, 1 << sizeKind);
        }
    }

    /** One byte is there for SINGLE alone, and two bytes tell nothing below 256. */
    private static int sizeKind(int size, boolean single) {
        if (size < 256) {
            return single ? 0 : 2;
        }
        return size < 65536 + 256 ? 1 : 2;
    }

    private static int idKind(long id) {
        if (id == 0) {
            return 0;
        }
        if (id < 256) {
            return 1;
        }
        return id < 65536 ? 2 : 3;
    }

    /** The greatest k with 2^k not above x, which is 1 or more. */
    private static int log(int x) {
        int k = 0;
        for (int rest = x; rest > 1; rest >>= 1) {
            k++;
        }
        return k;
    }

    /** A row of bytes that knows its limit: what comes beyond it is left out, and makes it spilled. */
    private static final class Row {
        final byte[] cells;
        int used;
        boolean spilled;
        private long hold;
        private int held;

        Row(int most) {
            cells = new byte[Math.max(most, 0)];
        }

        void drop() {
            used = 0;
            spilled = false;
            hold = 0;
            held = 0;
        }

        void put(int value) {
            if (used < cells.length) {
                cells[used] = (byte) value;
                used++;
            } else {
                spilled = true;
            }
        }

        void putNumber(long number, int bytes) {
            for (int i = 0; i < bytes; i++) {
                put((int) (number >>> (8 * i)));
            }
        }

        void putRow(Row other, int from, int to) {
            putCells(other.cells, from, Math.min(to, other.used));
        }

        void putCells(byte[] source, int from, int to) {
            int n = to - from;
            if (n <= 0 || from < 0 || to > source.length) {
                return;
            }
            if (n > cells.length - used) {
                spilled = true;
                return;
            }
            System.arraycopy(source, from, cells, used, n);
            used += n;
        }

        /** The number's n lowest bits, n at most 31, behind the bits before. */
        void addBits(int number, int n) {
            hold |= (number & ((1L << n) - 1)) << held;
            held += n;
            for (; held >= 8; held -= 8) {
                if (used < cells.length) {
                    cells[used] = (byte) hold;
                    used++;
                } else {
                    spilled = true;
                }
                hold >>>= 8;
            }
        }

        /** Zeros up to the end of a byte. */
        void closeBits() {
            if (held > 0) {
                addBits(0, 8 - held);
            }
        }

        /** A 1, the END, and zeros up to the end of a byte. */
        void endStream() {
            addBits(1, 8 - held);
        }

        int at(int k) {
            return k >= 0 && k < used ? cells[k] & 255 : -1;
        }

        /** A number of at most 8 bytes; bytes that are not there are zeros. */
        long number(int from, int bytes) {
            long number = 0;
            for (int i = 0; i < bytes; i++) {
                number |= (long) Math.max(at(from + i), 0) << (8 * i);
            }
            return number;
        }

        /** A number of n bits, n at most 30, from this bit on; bits that are not there are zeros. */
        int bits(int from, int n) {
            int number = 0;
            for (int i = 0; i < n; i++) {
                int cell = Math.max(at((from + i) >> 3), 0);
                number |= (cell >> ((from + i) & 7) & 1) << i;
            }
            return number;
        }
    }

    /** THE WIDE SUM. */
    private static final class WideSum {
        private static final long Q1 = 0x9E3779B185EBCA87L;
        private static final long Q2 = 0xC2B2AE3D27D4EB4FL;
        private static final long Q3 = 0x165667B19E3779F9L;
        private static final long Q4 = 0x85EBCA77C2B2AE63L;
        private static final long Q5 = 0x27D4EB2F165667C5L;

        static long of(Row row) {
            int whole = row.used / 32 * 32;
            long h = whole == 0 ? Q5 : lanes(row, whole);
            h += row.used;
            int at = whole;
            for (; at + 8 <= row.used; at += 8) {
                h = rotated(h ^ rotated(row.number(at, 8) * Q2, 31) * Q1, 27) * Q1 + Q4;
            }
            for (; at + 4 <= row.used; at += 4) {
                h = rotated(h ^ row.number(at, 4) * Q1, 23) * Q2 + Q3;
            }
            for (; at < row.used; at++) {
                h = rotated(h ^ row.at(at) * Q5, 11) * Q1;
            }
            h = (h ^ h >>> 33) * Q2;
            h = (h ^ h >>> 29) * Q3;
            return h ^ h >>> 32;
        }

        private static long lanes(Row row, int whole) {
            long a = Q1 + Q2;
            long b = Q2;
            long c = 0;
            long d = -Q1;
            for (int at = 0; at < whole; at += 32) {
                a = rotated(a + row.number(at, 8) * Q2, 31) * Q1;
                b = rotated(b + row.number(at + 8, 8) * Q2, 31) * Q1;
                c = rotated(c + row.number(at + 16, 8) * Q2, 31) * Q1;
                d = rotated(d + row.number(at + 24, 8) * Q2, 31) * Q1;
            }
            long h = rotated(a, 1) + rotated(b, 7) + rotated(c, 12) + rotated(d, 18);
            return joined(joined(joined(joined(h, a), b), c), d);
        }

        private static long joined(long h, long lane) {
            return (h ^ rotated(lane * Q2, 31) * Q1) * Q1 + Q4;
        }

        private static long rotated(long x, int by) {
            return x << by | x >>> (64 - by);
        }
    }

    /** A SHARE with its places; of order 0 it is the table of one symbol alone. */
    private static final class Share {
        private final int last;
        /** A mass is what the points are without their sign. */
        private final int[] points;
        /** What was cut off of the points by counts. */
        private final int[] rests;
        /** Where the places of a symbol begin among the sorted ones. */
        private final int[] firsts;
        /** The most bits that a place of a symbol takes. */
        private final int[] widths;
        private final int[] owners;
        private final int[] sorted;
        int order;
        boolean there;

        Share(int last, int greatest) {
            this.last = Math.max(last, 0);
            points = new int[this.last + 1];
            rests = new int[this.last + 1];
            firsts = new int[this.last + 1];
            widths = new int[this.last + 1];
            owners = new int[1 << greatest];
            sorted = new int[1 << greatest];
        }

        /** The other one has the same last symbol and the same greatest order. */
        void become(Share other) {
            there = other.there;
            if (!there) {
                return;
            }
            order = other.order;
            int n = Math.min(points.length, other.points.length);
            int size = Math.min(1 << order, Math.min(sorted.length, other.sorted.length));
            System.arraycopy(other.points, 0, points, 0, n);
            System.arraycopy(other.firsts, 0, firsts, 0, n);
            System.arraycopy(other.widths, 0, widths, 0, n);
            System.arraycopy(other.owners, 0, owners, 0, size);
            System.arraycopy(other.sorted, 0, sorted, 0, size);
        }

        void beOf(int[] known, int order) {
            Arrays.fill(points, 0);
            System.arraycopy(known, 0, points, 0, Math.min(known.length, points.length));
            this.order = order;
            spread();
        }

        void beAlone(int symbol) {
            Arrays.fill(points, 0);
            if (symbol >= 0 && symbol <= last) {
                points[symbol] = 1;
            }
            order = 0;
            spread();
        }

        /** Points BY COUNTS, without the places; 2^order is at least how many counts are above 0. */
        void weigh(int[] counts, int order) {
            int total = 0;
            for (int s = 0; s <= last && s < counts.length; s++) {
                total += counts[s];
            }
            this.order = order;
            int lack = 1 << order;
            for (int s = 0; s <= last && s < counts.length && total > 0; s++) {
                int scaled = counts[s] << order;
                points[s] = counts[s] == 0 ? 0 : scaled < total ? -1 : scaled / total;
                rests[s] = scaled % total;
                lack -= Math.abs(points[s]);
            }
            if (lack > 0) {
                giveMore(lack, total);
            } else {
                takeAway(-lack);
            }
        }

        private void giveMore(int lack, int total) {
            for (int i = 0; i < lack; i++) {
                int best = -1;
                for (int s = 0; s <= last; s++) {
                    if (points[s] > 0 && (best < 0 || rests[s] > rests[best])) {
                        best = s;
                    }
                }
                if (best >= 0) {
                    points[best]++;
                    // Less by more than any rest: it comes again behind all that got none yet.
                    rests[best] -= total;
                }
            }
        }

        private void takeAway(int over) {
            for (int i = 0; i < over; i++) {
                int best = 0;
                for (int s = 1; s <= last; s++) {
                    if (points[s] > points[best]) {
                        best = s;
                    }
                }
                points[best]--;
            }
        }

        /** Gives the symbols their places, by the points and the order. */
        void spread() {
            int size = Math.min(1 << order, owners.length);
            int high = size;
            int begin = 0;
            for (int s = 0; s <= last; s++) {
                int mass = Math.abs(points[s]);
                firsts[s] = begin;
                widths[s] = mass > 0 ? order - log(mass) : 0;
                begin += mass;
                if (points[s] < 0 && high > 0) {
                    high--;
                    owners[high] = s;
                }
            }
            spreadBelow(high, size);
            sortPlaces(size);
            there = true;
        }

        private void spreadBelow(int high, int size) {
            int step = (size >> 1) + (size >> 3) + 3;
            int place = 0;
            int symbol = 0;
            int given = 0;
            for (int i = 0; i < size; i++) {
                if (place < high) {
                    for (; symbol < last && given >= points[symbol]; symbol++) {
                        given = 0;
                    }
                    owners[place] = symbol;
                    given++;
                }
                place = (place + step) & (size - 1);
            }
        }

        private void sortPlaces(int size) {
            for (int place = 0; place < size; place++) {
                int s = owners[place];
                if (firsts[s] < size) {
                    sorted[firsts[s]] = place;
                    firsts[s]++;
                }
            }
            for (int s = 0; s <= last; s++) {
                firsts[s] -= Math.abs(points[s]);
            }
        }

        boolean canTell(int[] counts) {
            for (int s = 0; s < counts.length; s++) {
                if (counts[s] > 0 && (s > last || points[s] == 0)) {
                    return false;
                }
            }
            return true;
        }

        /** The lowest place of a symbol that has points. */
        int lowest(int symbol) {
            int at = firsts[symbol];
            return at >= 0 && at < sorted.length ? sorted[at] : 0;
        }

        /** How many bits it takes to come from this state to the symbol, the one before it in the row. */
        int width(int symbol, int state) {
            int most = widths[symbol];
            return (state + (1 << order)) >> most >= Math.abs(points[symbol]) ? most : most - 1;
        }

        /** The place of the symbol, to which the state comes by so many bits. */
        int before(int symbol, int state, int width) {
            int at = firsts[symbol] + ((state + (1 << order)) >> width) - Math.abs(points[symbol]);
            return at >= 0 && at < sorted.length ? sorted[at] : 0;
        }

        int rowBits(int[] symbols, int n) {
            if (n < 1 || n > symbols.length) {
                return 0;
            }
            int bits = order;
            int state = lowest(symbols[n - 1]);
            for (int i = n - 2; i >= 0; i--) {
                int width = width(symbols[i], state);
                bits += width;
                state = before(symbols[i], state, width);
            }
            return bits;
        }

        int owner(int place) {
            return place >= 0 && place < owners.length ? owners[place] : 0;
        }

        /** The NUMBER of a place. */
        int rank(int place) {
            int symbol = owner(place);
            int mass = Math.abs(points[symbol]);
            for (int i = 0; i < mass; i++) {
                int at = firsts[symbol] + i;
                if (at < sorted.length && sorted[at] == place) {
                    return mass + i;
                }
            }
            return mass;
        }

        void tell(Row row) {
            row.addBits(order - LEAST_ORDER, 4);
            int lack = 1 << order;
            int zeros = 0;
            for (int s = 0; s <= last && lack > 0; s += 1 + zeros) {
                int u = points[s] + 1;
                int width = log(lack + 1);
                int m = (2 << width) - 2 - lack;
                if (u < m) {
                    row.addBits(u, width);
                } else {
                    row.addBits(u < 1 << width ? u : u + m, width + 1);
                }
                lack -= Math.abs(points[s]);
                zeros = u == 1 ? zerosFrom(s + 1) : 0;
                if (u == 1) {
                    for (int i = 0; i < zeros / 3; i++) {
                        row.addBits(3, 2);
                    }
                    row.addBits(zeros % 3, 2);
                }
            }
            row.closeBits();
        }

        private int zerosFrom(int from) {
            int zeros = 0;
            for (int s = from; s <= last && points[s] == 0; s++) {
                zeros++;
            }
            return zeros;
        }

        /** Reads A SHARE TOLD, from a byte on to before another: the byte behind it, or -1, it is WRONG. */
        int readFrom(Row row, int from, int to, int greatest) {
            there = false;
            Arrays.fill(points, 0);
            int end = 8 * to;
            int at = 8 * from + 4;
            order = LEAST_ORDER + row.bits(8 * from, 4);
            if (at > end || order > greatest || 1 << order > owners.length) {
                return -1;
            }
            int lack = 1 << order;
            for (int s = 0; s <= last && lack > 0; s++) {
                int width = log(lack + 1);
                int m = (2 << width) - 2 - lack;
                int u = row.bits(at, width);
                if (u >= m) {
                    u = row.bits(at, width + 1);
                    u = u >= 1 << width ? u - m : u;
                    at++;
                }
                at += width;
                points[s] = u - 1;
                lack -= Math.abs(points[s]);
                int more = u == 1 ? 3 : 0;
                for (; more == 3 && at <= end && s <= last; at += 2) {
                    more = row.bits(at, 2);
                    s += more;
                }
                if (at > end || s > last) {
                    return -1;
                }
            }
            if (lack != 0) {
                return -1;
            }
            spread();
            return (at + 7) >> 3;
        }
    }

    /** CODES of literals. */
    private static final class Codes {
        final int[] lengths = new int[256];
        private final int[] codes = new int[256];
        private final int[] cells = new int[MOST_LENGTH + 2];
        /** The greatest length, T. */
        int top;
        boolean there;

        void become(Codes other) {
            there = other.there;
            if (there) {
                top = other.top;
                System.arraycopy(other.lengths, 0, lengths, 0, lengths.length);
                System.arraycopy(other.codes, 0, codes, 0, codes.length);
            }
        }

        int weight(int symbol) {
            return lengths[symbol] == 0 ? 0 : top + 1 - lengths[symbol];
        }

        /** Gives the symbols their codes, by their lengths. */
        void settle(int top) {
            this.top = Math.min(top, MOST_LENGTH);
            Arrays.fill(cells, 0);
            for (int s = 0; s < lengths.length; s++) {
                int weight = weight(s);
                if (weight > 0) {
                    cells[weight + 1] += 1 << (weight - 1);
                }
            }
            for (int w = 1; w < cells.length; w++) {
                cells[w] += cells[w - 1];
            }
            for (int s = 0; s < lengths.length; s++) {
                int weight = weight(s);
                if (weight > 0) {
                    codes[s] = cells[weight] >> (weight - 1);
                    cells[weight] += 1 << (weight - 1);
                }
            }
            there = true;
        }

        boolean canTell(int[] counts) {
            if (!there) {
                return false;
            }
            for (int s = 0; s < counts.length && s < lengths.length; s++) {
                if (counts[s] > 0 && lengths[s] == 0) {
                    return false;
                }
            }
            return true;
        }

        int streamBytes(byte[] symbols, int from, int to) {
            int bits = 0;
            for (int i = from; i < to; i++) {
                bits += lengths[symbols[i] & 255];
            }
            return bits / 8 + 1;
        }

        void putStream(Row row, byte[] symbols, int from, int to) {
            for (int i = to - 1; i >= from; i--) {
                int symbol = symbols[i] & 255;
                row.addBits(codes[symbol], lengths[symbol]);
            }
            row.endStream();
        }
    }

    /** LENGTHS BY COUNTS. */
    private static final class Knots {
        private final int[] counts = new int[256];
        private final int[] symbols = new int[256];
        /** The symbols' knots in their order of going, then the sums in their order of coming. */
        private final int[] sums = new int[512];
        private final int[] owners = new int[512];
        private final int[] depths = new int[512];

        /** At least two counts are above 0. */
        void settle(int[] given, Codes codes) {
            System.arraycopy(given, 0, counts, 0, Math.min(given.length, counts.length));
            int top = MOST_LENGTH + 1;
            // After 31 halvings each count is 1, and no length is above 8.
            for (int round = 0; round < 32 && top > MOST_LENGTH; round++) {
                int n = sort();
                join(n);
                top = measure(n, codes.lengths);
                halve();
            }
            codes.settle(top);
        }

        private int sort() {
            int n = 0;
            for (int s = 0; s < counts.length; s++) {
                if (counts[s] > 0) {
                    int at = n;
                    for (; at > 0 && sums[at - 1] > counts[s]; at--) {
                        sums[at] = sums[at - 1];
                        symbols[at] = symbols[at - 1];
                    }
                    sums[at] = counts[s];
                    symbols[at] = s;
                    n++;
                }
            }
            return n;
        }

        /** Sums never fall, so both the symbols' knots and the sums go in their order. */
        private void join(int n) {
            int leaf = 0;
            int knot = n;
            for (int made = n; made < 2 * n - 1; made++) {
                sums[made] = 0;
                for (int i = 0; i < 2; i++) {
                    boolean first = leaf < n && (knot >= made || sums[leaf] <= sums[knot]);
                    int gone = first ? leaf : knot;
                    leaf += first ? 1 : 0;
                    knot += first ? 0 : 1;
                    sums[made] += sums[gone];
                    owners[gone] = made;
                }
            }
        }

        private int measure(int n, int[] lengths) {
            Arrays.fill(lengths, 0);
            int top = 0;
            int root = Math.max(2 * n - 2, 0);
            depths[root] = 0;
            for (int knot = root - 1; knot >= 0; knot--) {
                depths[knot] = depths[owners[knot]] + 1;
                if (knot < n) {
                    lengths[symbols[knot]] = depths[knot];
                    top = Math.max(top, depths[knot]);
                }
            }
            return top;
        }

        private void halve() {
            for (int s = 0; s < counts.length; s++) {
                counts[s] = (counts[s] + 1) / 2;
            }
        }
    }

    /** THE DESCRIPTION of codes. */
    private static final class Description {
        private static final int MOST_BYTES = 512;
        private final int[] weights = new int[256];
        private final int[] counts = new int[WEIGHT_LAST + 1];
        private final Share share = new Share(WEIGHT_LAST, WEIGHT_ORDER);
        private Row best = new Row(MOST_BYTES);
        private Row other = new Row(MOST_BYTES);

        /** Appends the description of the codes: false, and nothing is appended, when they have none. */
        boolean describe(Codes codes, Row told) {
            int k = weigh(codes);
            boolean varied = k >= 2 && counts[weights[0]] < k;
            for (int order = LEAST_ORDER; varied && order <= WEIGHT_ORDER; order++) {
                share.weigh(counts, order);
                share.spread();
                other.drop();
                share.tell(other);
                putTwoStates(other, k);
                if (order == LEAST_ORDER || other.used < best.used) {
                    Row spare = best;
                    best = other;
                    other = spare;
                }
            }
            int states = varied && best.used < 128 ? best.used : 0;
            int direct = k <= 128 ? (k + 1) / 2 : 0;
            if (direct > 0 && (states == 0 || direct <= states)) {
                putDirect(told, k);
                return true;
            }
            if (states > 0) {
                told.put(states);
                told.putRow(best, 0, states);
            }
            return states > 0;
        }

        private int weigh(Codes codes) {
            int k = codes.lengths.length - 1;
            for (; k > 0 && codes.lengths[k] == 0; k--) {
                continue;
            }
            Arrays.fill(counts, 0);
            for (int i = 0; i < k; i++) {
                weights[i] = codes.weight(i);
                counts[weights[i]]++;
            }
            return k;
        }

        private void putDirect(Row row, int k) {
            row.put(127 + k);
            for (int i = 0; i < k; i += 2) {
                row.put(16 * weights[i] + (i + 1 < k ? weights[i + 1] : 0));
            }
        }

        private void putTwoStates(Row row, int k) {
            // The lowest place always takes bits, as no weight has all the places.
            int state = share.lowest(weights[k - 2]);
            int next = share.lowest(weights[k - 1]);
            for (int i = k - 3; i >= 0; i--) {
                int width = share.width(weights[i], next);
                row.addBits(next, width);
                int moved = share.before(weights[i], next, width);
                next = state;
                state = moved;
            }
            row.addBits(next, share.order);
            row.addBits(state, share.order);
            row.endStream();
        }

        /** Reads a description from a byte on: the byte behind it, or -1, it is WRONG. */
        int readFrom(Row row, int from, Codes codes) {
            codes.there = false;
            int x = row.at(from);
            int bytes = x > 127 ? (x - 126) / 2 : x;
            int to = from + 1 + bytes;
            if (x < 0 || to > row.used) {
                return -1;
            }
            int k = x > 127 ? readDirect(row, from + 1, x - 127) : readStates(row, from + 1, to);
            return k > 0 && settle(k, codes) ? to : -1;
        }

        private int readDirect(Row row, int from, int k) {
            for (int i = 0; i < k; i++) {
                int pair = Math.max(row.at(from + i / 2), 0);
                weights[i] = i % 2 == 0 ? pair >> 4 : pair & 15;
            }
            return k;
        }

        /** How many weights come by states, -1 when they are WRONG. */
        private int readStates(Row row, int from, int to) {
            int begin = share.readFrom(row, from, to, WEIGHT_ORDER);
            int highest = row.at(to - 1);
            if (begin < 0 || begin >= to || highest < 1) {
                return -1;
            }
            int floor = 8 * begin;
            int at = 8 * (to - 1) + log(highest) - 2 * share.order;
            if (at < floor) {
                return -1;
            }
            int state = row.bits(at + share.order, share.order);
            int next = row.bits(at, share.order);
            for (int k = 0; k + 1 < weights.length; k++) {
                weights[k] = share.owner(state);
                int rank = share.rank(state);
                int width = share.order - log(rank);
                if (at - floor < width) {
                    weights[k + 1] = share.owner(next);
                    return k + 2;
                }
                at -= width;
                int moved = (rank << width) - (1 << share.order) + row.bits(at, width);
                state = next;
                next = moved;
            }
            return -1;
        }

        /** Gives the codes to which the first k weights lead: false when they are WRONG. */
        private boolean settle(int k, Codes codes) {
            if (k < 1 || k >= weights.length) {
                return false;
            }
            int sum = 0;
            int ones = 0;
            for (int i = 0; i < k; i++) {
                sum += weights[i] > 0 ? 1 << (weights[i] - 1) : 0;
                ones += weights[i] == 1 ? 1 : 0;
            }
            int top = sum > 0 ? log(sum) + 1 : 0;
            if (top < 1 || top > MOST_LENGTH) {
                return false;
            }
            int rest = (1 << top) - sum;
            if ((rest & (rest - 1)) != 0) {
                return false;
            }
            weights[k] = log(rest) + 1;
            if (ones + (weights[k] == 1 ? 1 : 0) < 2) {
                return false;
            }
            Arrays.fill(codes.lengths, 0);
            for (int i = 0; i <= k; i++) {
                codes.lengths[i] = weights[i] > 0 ? top + 1 - weights[i] : 0;
            }
            codes.settle(top);
            return true;
        }
    }

    /** LITERALS of a block, and the ways of telling them. */
    private static final class Literals {
        private static final int ONE_STREAM = 1024;
        /** A head of three bytes, a description of two and a stream of one. */
        private static final int LEAST_RENEWED = 6;
        private final byte[] cells = new byte[MOST_IN];
        private final int[] counts = new int[256];
        private int used;
        private final Codes held = new Codes();
        private final Codes fresh = new Codes();
        private final Knots knots = new Knots();
        private final Description description;
        private final Row told = new Row(256);
        /** The way taken, how many bytes it has, how its head is and how many bytes that tells. */
        int kind;
        private int bytes;
        private int shape;
        private int behind;

        Literals(Description description) {
            this.description = description;
        }

        void begin(Codes codes) {
            held.become(codes);
        }

        void drop() {
            used = 0;
            Arrays.fill(counts, 0);
        }

        void add(int literal) {
            if (used < cells.length) {
                cells[used] = (byte) literal;
                counts[literal & 255]++;
                used++;
            }
        }

        /** So few literals take no more bytes without codes of their own. */
        boolean areFew() {
            return used + 1 <= LEAST_RENEWED;
        }

        /** Makes the fresh codes and their description: false when there are none. */
        boolean renew() {
            told.drop();
            if (used == 0 || counts[cells[0] & 255] == used) {
                return false;
            }
            knots.settle(counts, fresh);
            return description.describe(fresh, told);
        }

        /** Takes the best way, with fresh codes or without: how many bytes it has. */
        int choose(boolean renewed) {
            kind = 0;
            bytes = plainHead() + used;
            if (used > 0 && counts[cells[0] & 255] == used && plainHead() + 1 < bytes) {
                kind = 1;
                bytes = plainHead() + 1;
            }
            if (held.canTell(counts)) {
                consider(3, held, 0);
            }
            if (renewed) {
                consider(2, fresh, told.used);
            }
            return bytes;
        }

        private int plainHead() {
            if (used < 32) {
                return 1;
            }
            return used < 4096 ? 2 : 3;
        }

        private void consider(int way, Codes codes, int described) {
            int streams = described + streamBytes(codes);
            int l = shape(streams);
            if (l >= 0 && codedHead(l) + streams < bytes) {
                kind = way;
                bytes = codedHead(l) + streams;
                shape = l;
                behind = streams;
            }
        }

        private int streamBytes(Codes codes) {
            if (used < ONE_STREAM) {
                return codes.streamBytes(cells, 0, used);
            }
            int c = (used + 3) / 4;
            int sum = 6;
            for (int i = 0; i < 4; i++) {
                sum += codes.streamBytes(cells, i * c, Math.min((i + 1) * c, used));
            }
            return sum;
        }

        /** Four streams have 1024 literals or more, which l 1 can't tell. */
        private int shape(int streams) {
            if (used < ONE_STREAM) {
                return streams < ONE_STREAM ? 0 : -1;
            }
            return used < 1 << 14 && streams < 1 << 14 ? 2 : 3;
        }

        private static int codedHead(int l) {
            return l < 2 ? 3 : l + 2;
        }

        void put(Row row) {
            if (kind < 2) {
                putPlain(row);
                return;
            }
            int bits = shape < 2 ? 10 : 4 * shape + 6;
            long head = kind + 4 * shape + 16L * used + ((long) behind << (4 + bits));
            row.putNumber(head, codedHead(shape));
            if (kind == 2) {
                putDescription(row);
            }
            putStreams(row, kind == 2 ? fresh : held);
        }

        private void putPlain(Row row) {
            int head = plainHead();
            row.putNumber(head == 1 ? kind + 8 * used : kind + 4 * (2 * head - 3) + 16 * used, head);
            row.putCells(cells, 0, kind == 0 ? used : 1);
        }

        void putDescription(Row row) {
            row.putRow(told, 0, told.used);
        }

        private void putStreams(Row row, Codes codes) {
            if (used < ONE_STREAM) {
                codes.putStream(row, cells, 0, used);
                return;
            }
            int c = (used + 3) / 4;
            for (int i = 0; i < 3; i++) {
                row.putNumber(codes.streamBytes(cells, i * c, (i + 1) * c), 2);
            }
            for (int i = 0; i < 4; i++) {
                codes.putStream(row, cells, i * c, Math.min((i + 1) * c, used));
            }
        }

        /** The block is of kind 2: its codes are those from now on. */
        void keep() {
            if (kind == 2) {
                held.become(fresh);
            }
        }
    }

    /** One of the three numbers of all sequences of a block, and the ways of telling its table. */
    private static final class Column {
        private static final int NO_BOUND = 1 << 30;
        private static final int LEAST_SHARE = 16;
        private final int[] bases;
        private final int[] widths;
        private final int greatest;
        private final int[] symbols = new int[MOST_SEQUENCES];
        private final int[] values = new int[MOST_SEQUENCES];
        private final int[] counts;
        private int used;
        private int different;
        /** The additional bits of all. */
        private int additional;
        private final Share known;
        private final Share held;
        private final Share fresh;
        private Share chosen;
        private final Row told = new Row(128);
        int mode;
        private int bits;
        private int orderBits;
        private int state;

        Column(int[] bases, int[] widths, int last, int greatest) {
            this.bases = bases;
            this.widths = widths;
            this.greatest = greatest;
            counts = new int[Math.max(last, 0) + 1];
            known = new Share(last, greatest);
            held = new Share(last, greatest);
            fresh = new Share(last, greatest);
            chosen = known;
        }

        void know(int[] points, int order) {
            known.beOf(points, order);
        }

        void begin(Share share) {
            held.become(share);
        }

        void drop() {
            used = 0;
            different = 0;
            additional = 0;
            Arrays.fill(counts, 0);
        }

        void add(int value) {
            int s = 0;
            for (; s + 1 < bases.length && bases[s + 1] <= value; s++) {
                continue;
            }
            if (used < symbols.length && s < counts.length) {
                symbols[used] = s;
                values[used] = value;
                used++;
                different += counts[s] == 0 ? 1 : 0;
                counts[s]++;
                additional += widths[s];
            }
        }

        /** Takes the best mode: its cost in bits, with the additional ones. */
        int choose() {
            if (used == 0) {
                return 0;
            }
            bits = NO_BOUND;
            if (known.canTell(counts)) {
                consider(0, known, known.rowBits(symbols, used));
            }
            if (different == 1) {
                consider(1, fresh, 8);
            }
            int order = orderBelow(bits);
            if (order > 0) {
                consider(2, fresh, orderBits);
            }
            if (held.there && held.canTell(counts)) {
                consider(3, held, held.rowBits(symbols, used));
            }
            if (mode == 1) {
                fresh.beAlone(symbols[0]);
            } else if (mode == 2) {
                form(order);
            }
            return bits + additional;
        }

        private void consider(int way, Share share, int cost) {
            if (cost < bits) {
                mode = way;
                chosen = share;
                bits = cost;
            }
        }

        /** The order of mode 2 of the least cost, which orderBits is then; 0 when none is below the bound. */
        private int orderBelow(int bound) {
            int best = 0;
            orderBits = bound;
            for (int order = LEAST_ORDER; order <= greatest; order++) {
                // A share takes two bytes at least and its row the last state, so many orders are out at once.
                if (1 << order < different || LEAST_SHARE + order >= orderBits) {
                    continue;
                }
                fresh.weigh(counts, order);
                told.drop();
                fresh.tell(told);
                if (8 * told.used + order < orderBits) {
                    fresh.spread();
                    int cost = 8 * told.used + fresh.rowBits(symbols, used);
                    best = cost < orderBits ? order : best;
                    orderBits = Math.min(cost, orderBits);
                }
            }
            return best;
        }

        private void form(int order) {
            fresh.weigh(counts, order);
            fresh.spread();
            told.drop();
            fresh.tell(told);
        }

        void putTable(Row row) {
            if (mode == 1) {
                row.put(symbols[0]);
            } else if (mode == 2) {
                row.putRow(told, 0, told.used);
            }
        }

        /** Puts the share that mode 2 would tell. */
        void putShare(Row row) {
            form(orderBelow(NO_BOUND));
            row.putRow(told, 0, told.used);
        }

        void beginStates() {
            state = used > 0 ? chosen.lowest(symbols[used - 1]) : 0;
        }

        void putState(Row row, int i) {
            int symbol = symbols[i];
            int width = chosen.width(symbol, state);
            row.addBits(state, width);
            state = chosen.before(symbol, state, width);
        }

        void putAdditional(Row row, int i) {
            int symbol = symbols[i];
            row.addBits(values[i] - bases[symbol], widths[symbol]);
        }

        void endStates(Row row) {
            row.addBits(state, chosen.order);
        }

        /** The block is of kind 2, with sequences: its table is that from now on. */
        void keep() {
            if (mode != 3) {
                held.become(chosen);
            }
        }
    }

    /** Looks for MATCHES in the data. */
    private static final class Finder {
        private static final int HEADS = 4096;
        private final byte[] data = new byte[MOST_DATA];
        private int used;
        /** The place before that has the same three bytes, or others with the same hash. */
        private final int[] earlier = new int[MOST_DATA];
        private final int[] heads = new int[HEADS];
        private int way;
        private int least;
        private int window;
        private int end;
        /** What was found; a length of 0 is no match. */
        int length;
        int distance;
        /** What way 3 has found one place further on already. */
        private int aheadPlace;
        private int aheadLength;
        private int aheadDistance;

        void load(Row first, Row second) {
            used = first.used + second.used;
            if (used > data.length) {
                used = 0;
                return;
            }
            System.arraycopy(first.cells, 0, data, 0, first.used);
            System.arraycopy(second.cells, 0, data, first.used, second.used);
            Arrays.fill(heads, -1);
            for (int p = 0; p < used; p++) {
                if (p + 2 < used) {
                    int three = data[p] & 255 | (data[p + 1] & 255) << 8 | (data[p + 2] & 255) << 16;
                    int head = three * 0x9E3779B1 >>> 20;
                    earlier[p] = heads[head];
                    heads[head] = p;
                } else {
                    earlier[p] = -1;
                }
            }
        }

        void obey(int way, int least, int window) {
            this.way = way;
            this.least = least;
            this.window = window;
        }

        /** From now on the data ends there. */
        void endAt(int to) {
            end = Math.min(to, used);
            aheadPlace = -1;
        }

        int at(int p) {
            return p >= 0 && p < used ? data[p] & 255 : 0;
        }

        boolean same(int from, int to) {
            for (int p = from + 1; p < to; p++) {
                if (at(p) != at(from)) {
                    return false;
                }
            }
            return from < to;
        }

        void putTo(Row row, int from, int to) {
            row.putCells(data, from, Math.min(to, used));
        }

        /** Finds the match at p that the rule takes. */
        void find(int p) {
            if (p == aheadPlace) {
                length = aheadLength;
                distance = aheadDistance;
            } else {
                search(p);
            }
            if (way == 3 && length > 0) {
                lookAhead(p);
            }
        }

        private void lookAhead(int p) {
            int foundLength = length;
            int foundDistance = distance;
            search(p + 1);
            aheadPlace = p + 1;
            aheadLength = length;
            aheadDistance = distance;
            length = aheadLength > foundLength ? 0 : foundLength;
            distance = foundDistance;
        }

        private void search(int p) {
            length = 0;
            distance = 0;
            if (p < 0 || p + least > end) {
                return;
            }
            int lowest = Math.max(p - window, 0);
            int q = earlier[p];
            for (int i = 0; i < MOST_DATA && q >= lowest; i++) {
                // What differs right behind the longest so far is not longer.
                if (way < 2 || data[q + length] == data[p + length]) {
                    int found = common(q, p);
                    if (found >= least && better(found)) {
                        length = found;
                        distance = p - q;
                        if (enough(found, p)) {
                            return;
                        }
                    }
                }
                q = earlier[q];
            }
        }

        private int common(int q, int p) {
            int n = 0;
            for (; p + n < end && data[q + n] == data[p + n]; n++) {
                continue;
            }
            return n;
        }

        private boolean better(int found) {
            return way == 1 ? length == 0 || found >= 8 : found > length;
        }

        private boolean enough(int found, int p) {
            return way == 0 || way == 1 && found >= 8 || p + found >= end;
        }
    }

    /** Packs the rows of a frame, each by what the blocks before have left. */
    private static final class Packer {
        final Finder finder = new Finder();
        final Literals literals;
        private final Column literalLengths;
        private final Column distances;
        private final Column matchLengths;
        /** The LATEST distances by the blocks before, and within the row. */
        private final int[] latest = new int[3];
        private final int[] now = new int[3];
        private int count;
        final int[] tally = new int[ABOUTS];

        Packer(Description description) {
            literals = new Literals(description);
            literalLengths = new Column(LITERAL_BASES, LITERAL_WIDTHS, LITERAL_LAST, LITERAL_ORDER);
            literalLengths.know(LITERAL_KNOWN, LITERAL_KNOWN_ORDER);
            distances = new Column(DISTANCE_BASES, DISTANCE_WIDTHS, DISTANCE_LAST, DISTANCE_ORDER);
            distances.know(DISTANCE_KNOWN, DISTANCE_KNOWN_ORDER);
            matchLengths = new Column(MATCH_BASES, MATCH_WIDTHS, MATCH_LAST, MATCH_ORDER);
            matchLengths.know(MATCH_KNOWN, MATCH_KNOWN_ORDER);
        }

        void begin(Start start) {
            literals.begin(start.codes);
            literalLengths.begin(start.literalLengths);
            distances.begin(start.distances);
            matchLengths.begin(start.matchLengths);
            System.arraycopy(start.latest, 0, latest, 0, latest.length);
            Arrays.fill(tally, 0);
        }

        int sequences() {
            return count;
        }

        /** GOING over the data finds the literals and the sequences. */
        void go(int from, int to) {
            literals.drop();
            literalLengths.drop();
            distances.drop();
            matchLengths.drop();
            count = 0;
            System.arraycopy(latest, 0, now, 0, now.length);
            finder.endAt(to);
            int behind = from;
            for (int p = from; p < to; p += Math.max(finder.length, 1)) {
                finder.find(p);
                if (finder.length == 0) {
                    literals.add(finder.at(p));
                } else {
                    addSequence(p - behind);
                    behind = p + finder.length;
                }
            }
        }

        private void addSequence(int literalLength) {
            literalLengths.add(literalLength);
            distances.add(tellDistance(finder.distance, literalLength == 0 ? 1 : 0));
            matchLengths.add(finder.length);
            count++;
        }

        /** The least number that says the distance, by which the latest ones change. */
        private int tellDistance(int distance, int skip) {
            for (int v = 1; v <= 3; v++) {
                int w = v + skip;
                if (distance == (w == 4 ? now[0] - 1 : now[w - 1])) {
                    comeFirst(distance, Math.min(w, 3));
                    return v;
                }
            }
            comeFirst(distance, 3);
            return distance + 3;
        }

        /** So many, with the one that comes, change their places. */
        private void comeFirst(int distance, int among) {
            for (int i = among - 1; i > 0; i--) {
                now[i] = now[i - 1];
            }
            now[0] = distance;
        }

        void putBlock(Row row, int from, int to, boolean last) {
            int n = to - from;
            int end = last ? 1 : 0;
            if (finder.same(from, to)) {
                row.putNumber(8L * n + 2 + end, 3);
                row.put(finder.at(from));
                tally[OF_KIND + 1]++;
                return;
            }
            go(from, to);
            boolean renewed = !literals.areFew() && literals.renew();
            int bits = literalLengths.choose() + distances.choose() + matchLengths.choose();
            int packed = literals.choose(renewed) + sequenceBytes(bits);
            if (packed < n) {
                row.putNumber(8L * packed + 4 + end, 3);
                literals.put(row);
                putSequences(row);
                keep();
            } else {
                row.putNumber(8L * n + end, 3);
                finder.putTo(row, from, to);
                tally[OF_KIND]++;
            }
        }

        /** How many bytes the sequences have, by the bits of their stream and their tables, which take whole bytes. */
        private int sequenceBytes(int bits) {
            return count == 0 ? 1 : countBytes() + 1 + bits / 8 + 1;
        }

        private int countBytes() {
            if (count < 128) {
                return 1;
            }
            return count < 32512 ? 2 : 3;
        }

        private void putCount(Row row) {
            int bytes = countBytes();
            if (bytes == 1) {
                row.put(count);
            } else if (bytes == 2) {
                row.put(128 + (count >> 8));
                row.put(count);
            } else {
                row.put(255);
                row.putNumber(count - 32512, 2);
            }
        }

        private void putSequences(Row row) {
            putCount(row);
            if (count == 0) {
                return;
            }
            row.put(64 * literalLengths.mode + 16 * distances.mode + 4 * matchLengths.mode);
            literalLengths.putTable(row);
            distances.putTable(row);
            matchLengths.putTable(row);
            literalLengths.beginStates();
            distances.beginStates();
            matchLengths.beginStates();
            putAdditional(row, count - 1);
            for (int i = count - 2; i >= 0; i--) {
                distances.putState(row, i);
                matchLengths.putState(row, i);
                literalLengths.putState(row, i);
                putAdditional(row, i);
            }
            matchLengths.endStates(row);
            distances.endStates(row);
            literalLengths.endStates(row);
            row.endStream();
        }

        private void putAdditional(Row row, int i) {
            literalLengths.putAdditional(row, i);
            matchLengths.putAdditional(row, i);
            distances.putAdditional(row, i);
        }

        /** The block is of kind 2: what it has changed is so from now on. */
        private void keep() {
            System.arraycopy(now, 0, latest, 0, latest.length);
            literals.keep();
            tally[OF_KIND + 2]++;
            tally[OF_SEQUENCES] += count;
            tally[OF_LITERALS + literals.kind]++;
            if (count > 0) {
                keepTable(literalLengths);
                keepTable(distances);
                keepTable(matchLengths);
            }
        }

        private void keepTable(Column column) {
            column.keep();
            tally[OF_MODE + column.mode]++;
        }

        /** What a formed dictionary tells before its distances. */
        void putForms(Row row) {
            literals.putDescription(row);
            distances.putShare(row);
            matchLengths.putShare(row);
            literalLengths.putShare(row);
        }
    }

    /** With what frames begin: what a formed dictionary tells, or nothing of it. */
    private static final class Start {
        final Row nothing = new Row(0);
        final Codes codes = new Codes();
        final Share literalLengths = new Share(LITERAL_LAST, LITERAL_ORDER);
        final Share distances = new Share(DISTANCE_LAST, DISTANCE_ORDER);
        final Share matchLengths = new Share(MATCH_LAST, MATCH_ORDER);
        final int[] latest = {1, 4, 8};

        void empty() {
            codes.there = false;
            literalLengths.there = false;
            distances.there = false;
            matchLengths.there = false;
            latest[0] = 1;
            latest[1] = 4;
            latest[2] = 8;
        }

        /** Reads a formed dictionary: the byte at which its content begins, or what learn() answers. */
        int readFrom(Row row, Description description) {
            if (row.used < 8) {
                return -1;
            }
            int at = description.readFrom(row, 8, codes);
            if (at < 0) {
                return -2;
            }
            at = distances.readFrom(row, at, row.used, DISTANCE_ORDER);
            at = at < 0 ? at : matchLengths.readFrom(row, at, row.used, MATCH_ORDER);
            at = at < 0 ? at : literalLengths.readFrom(row, at, row.used, LITERAL_ORDER);
            if (at < 0) {
                return -3;
            }
            int left = row.used - at - 12;
            if (left < 0) {
                return -1;
            }
            for (int i = 0; i < latest.length; i++) {
                long distance = row.number(at + 4 * i, 4);
                if (distance == 0 || distance > left) {
                    return -4;
                }
                latest[i] = (int) distance;
            }
            return at + 12;
        }
    }
}
