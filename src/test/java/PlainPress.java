import java.util.ArrayList;
import java.util.Arrays;
import java.util.List;

/**
 * The document once more, word by word and without any care for speed, as a second opinion:
 * bits are characters of texts, matches are looked for at every place, knots in a list.
 */
final class PlainPress {
    /** A dictionary, or none: no content, no codes, no tables. */
    static final class Book {
        byte[] content = new byte[0];
        long id;
        int[] lengths;
        /** Points of literal lengths, distances, match lengths. */
        final int[][] tables = new int[3][];
        int[] latest = {1, 4, 8};
    }

    static final int[] GREATEST = {9, 8, 9};
    static final int[] LAST = {35, 31, 52};
    static final int[][] KNOWN = {
        points(4, 1, 3, 1, 2, 11, 1, 3, 2, 9, 3, 1, 2, 1, 1, 5, -1, 4),
        points(1, 6, 2, 3, 1, 15, -1, 5),
        points(1, 1, 4, 1, 3, 1, 2, 6, 1, 37, -1, 7)};

    /** What every way of telling a row takes, -1 for one that is not there. */
    static final class Trial {
        int row;
        int packed;
        /** Bytes of the literals with k 0 .. 3. */
        final int[] literals = {-1, -1, -1, -1};
        /** Bits of the tables of literal lengths, distances, match lengths by mode. */
        final int[][] modes = new int[3][];
        /** Bits of these by the order of mode 2. */
        final int[][] orders = new int[3][];
    }

    int way = 2;
    int least = 3;
    /** Of the latest press, for the rows that are not of one and the same byte. */
    List<Trial> trials = new ArrayList<>();
    Book book = new Book();
    int[] abouts = new int[12];

    private static int[] points(int... pairs) {
        List<Integer> all = new ArrayList<>();
        for (int i = 0; i < pairs.length; i += 2) {
            for (int j = 0; j < pairs[i + 1]; j++) {
                all.add(pairs[i]);
            }
        }
        return all.stream().mapToInt(x -> x).toArray();
    }

    // Bits.

    static String bits(long number, int n) {
        StringBuilder text = new StringBuilder();
        for (int i = 0; i < n; i++) {
            text.append((number >> i & 1) == 1 ? '1' : '0');
        }
        return text.toString();
    }

    static byte[] bytes(String bits) {
        byte[] row = new byte[(bits.length() + 7) / 8];
        for (int i = 0; i < bits.length(); i++) {
            if (bits.charAt(i) == '1') {
                row[i / 8] |= (byte) (1 << i % 8);
            }
        }
        return row;
    }

    static byte[] join(byte[]... rows) {
        int n = 0;
        for (byte[] row : rows) {
            n += row.length;
        }
        byte[] all = new byte[n];
        int at = 0;
        for (byte[] row : rows) {
            System.arraycopy(row, 0, all, at, row.length);
            at += row.length;
        }
        return all;
    }

    static byte[] number(long x, int bytes) {
        byte[] row = new byte[bytes];
        for (int i = 0; i < bytes; i++) {
            row[i] = (byte) (x >> 8 * i);
        }
        return row;
    }

    // Codes.

    /** The lengths by these counts, of which two at least are above 0. */
    static int[] lengthsByCounts(int[] given, int most) {
        int[] counts = given.clone();
        while (true) {
            List<List<Integer>> knots = new ArrayList<>();
            List<Integer> sums = new ArrayList<>();
            int[] lengths = new int[counts.length];
            for (int s = 0; s < counts.length; s++) {
                if (counts[s] > 0) {
                    knots.add(new ArrayList<>(List.of(s)));
                    sums.add(counts[s]);
                }
            }
            while (knots.size() > 1) {
                List<Integer> joined = new ArrayList<>();
                int sum = 0;
                for (int twice = 0; twice < 2; twice++) {
                    int at = 0;
                    for (int i = 1; i < sums.size(); i++) {
                        if (sums.get(i) < sums.get(at)) {
                            at = i;
                        }
                    }
                    sum += sums.remove(at);
                    joined.addAll(knots.remove(at));
                }
                knots.add(joined);
                sums.add(sum);
                for (int s : joined) {
                    lengths[s]++;
                }
            }
            if (Arrays.stream(lengths).max().getAsInt() <= most) {
                return lengths;
            }
            for (int s = 0; s < counts.length; s++) {
                counts[s] = (counts[s] + 1) / 2;
            }
        }
    }

    static int top(int[] lengths) {
        return Arrays.stream(lengths).max().getAsInt();
    }

    static int weight(int[] lengths, int s) {
        return lengths[s] == 0 ? 0 : top(lengths) + 1 - lengths[s];
    }

    /** Whose each cell is. */
    static int[] cells(int[] lengths) {
        int top = top(lengths);
        int[] cells = new int[1 << top];
        int at = 0;
        for (int weight = 1; weight <= top; weight++) {
            for (int s = 0; s < lengths.length; s++) {
                if (weight(lengths, s) == weight) {
                    for (int i = 0; i < 1 << (weight - 1); i++) {
                        cells[at++] = s;
                    }
                }
            }
        }
        if (at != cells.length) {
            throw new IllegalStateException("cells are left");
        }
        return cells;
    }

    static byte[] stream(int[] lengths, byte[] symbols) {
        int top = top(lengths);
        int[] cells = cells(lengths);
        String[] codes = new String[256];
        for (int cell = 0; cell < cells.length; cell++) {
            int s = cells[cell];
            codes[s] = bits(cell >> (top - lengths[s]), lengths[s]);
        }
        StringBuilder text = new StringBuilder();
        for (int i = symbols.length - 1; i >= 0; i--) {
            text.append(codes[symbols[i] & 255]);
        }
        return bytes(text.append('1').toString());
    }

    static byte[] streams(int[] lengths, byte[] symbols) {
        if (symbols.length < 1024) {
            return stream(lengths, symbols);
        }
        int n = symbols.length;
        int c = (n + 3) / 4;
        byte[][] rows = new byte[4][];
        for (int i = 0; i < 4; i++) {
            rows[i] = stream(lengths, Arrays.copyOfRange(symbols, i * c, Math.min(n, i * c + c)));
        }
        return join(number(rows[0].length, 2), number(rows[1].length, 2), number(rows[2].length, 2),
            rows[0], rows[1], rows[2], rows[3]);
    }

    /** The description of codes, null when there is none. */
    static byte[] description(int[] lengths) {
        int k = 255;
        while (lengths[k] == 0) {
            k--;
        }
        int[] weights = new int[k];
        for (int i = 0; i < k; i++) {
            weights[i] = weight(lengths, i);
        }
        byte[] direct = null;
        if (k <= 128) {
            direct = new byte[1 + (k + 1) / 2];
            direct[0] = (byte) (127 + k);
            for (int i = 0; i < k; i++) {
                direct[1 + i / 2] |= (byte) (i % 2 == 0 ? weights[i] << 4 : weights[i]);
            }
        }
        byte[] states = null;
        if (k >= 2 && Arrays.stream(weights).distinct().count() >= 2) {
            byte[] five = twoStates(weights, 5);
            byte[] six = twoStates(weights, 6);
            states = six.length < five.length ? six : five;
            states = states.length < 128 ? join(number(states.length, 1), states) : null;
        }
        if (direct == null || states == null) {
            return direct == null ? states : direct;
        }
        return direct.length <= states.length ? direct : states;
    }

    static byte[] twoStates(int[] weights, int order) {
        int[] counts = new int[12];
        for (int weight : weights) {
            counts[weight]++;
        }
        int[] points = byCounts(counts, order);
        Table table = new Table(points);
        int k = weights.length;
        int[] states = {table.lowestWithBits(weights[k - 1]), table.lowestWithBits(weights[k - 2])};
        StringBuilder text = new StringBuilder();
        int turn = 0;
        for (int i = k - 3; i >= 0; i--) {
            states[turn] = table.step(weights[i], states[turn], text);
            turn = 1 - turn;
        }
        text.append(bits(states[turn], order)).append(bits(states[1 - turn], order)).append('1');
        return join(told(points), bytes(text.toString()));
    }

    // Shares.

    static int order(int[] points) {
        int sum = 0;
        for (int p : points) {
            sum += p < 0 ? 1 : p;
        }
        int order = 0;
        while (1 << order < sum) {
            order++;
        }
        if (1 << order != sum) {
            throw new IllegalStateException("masses are no power of two");
        }
        return order;
    }

    static int[] byCounts(int[] counts, int order) {
        long total = 0;
        for (int c : counts) {
            total += c;
        }
        int n = counts.length;
        int[] points = new int[n];
        long[] cut = new long[n];
        int mass = 0;
        List<Integer> ranks = new ArrayList<>();
        for (int s = 0; s < n; s++) {
            long scaled = (long) counts[s] << order;
            if (counts[s] > 0) {
                points[s] = scaled < total ? -1 : (int) (scaled / total);
                cut[s] = scaled % total;
                mass += Math.abs(points[s]);
                if (points[s] > 0) {
                    ranks.add(s);
                }
            }
        }
        ranks.sort((a, b) -> cut[a] != cut[b] ? Long.compare(cut[b], cut[a]) : Integer.compare(a, b));
        for (int i = 0; mass < 1 << order; i++, mass++) {
            points[ranks.get(i % ranks.size())]++;
        }
        for (; mass > 1 << order; mass--) {
            int best = 0;
            for (int s = 0; s < n; s++) {
                best = points[s] > points[best] ? s : best;
            }
            points[best]--;
        }
        return points;
    }

    static byte[] told(int[] points) {
        return bytes(toldBits(points));
    }

    static String toldBits(int[] points) {
        int order = order(points);
        StringBuilder text = new StringBuilder(bits(order - 5, 4));
        int lack = 1 << order;
        int s = 0;
        while (lack > 0) {
            int u = points[s] + 1;
            int t = Integer.highestOneBit(lack + 1);
            int m = 2 * t - 2 - lack;
            int n = Integer.bitCount(t - 1);
            text.append(u < m ? bits(u, n) : u < t ? bits(u, n + 1) : bits(u + m, n + 1));
            lack -= Math.abs(points[s]);
            s++;
            if (u == 1) {
                int zeros = 0;
                while (points[s + zeros] == 0) {
                    zeros++;
                }
                s += zeros;
                for (; zeros >= 3; zeros -= 3) {
                    text.append("11");
                }
                text.append(bits(zeros, 2));
            }
        }
        return text.toString();
    }

    /** The places of a share. */
    static final class Table {
        final int order;
        final int[] symbol;
        final int[] width;
        final int[] base;

        Table(int[] points) {
            order = order(points);
            int size = 1 << order;
            symbol = new int[size];
            width = new int[size];
            base = new int[size];
            Arrays.fill(symbol, -1);
            int high = size;
            for (int s = 0; s < points.length; s++) {
                if (points[s] == -1) {
                    symbol[--high] = s;
                }
            }
            int place = 0;
            for (int s = 0; s < points.length; s++) {
                for (int i = 0; i < points[s]; i++) {
                    while (place >= high) {
                        place = (place + size / 2 + size / 8 + 3) % size;
                    }
                    symbol[place] = s;
                    place = (place + size / 2 + size / 8 + 3) % size;
                }
            }
            int[] next = new int[points.length];
            for (int s = 0; s < points.length; s++) {
                next[s] = Math.abs(points[s]);
            }
            for (int p = 0; p < size; p++) {
                int x = next[symbol[p]]++;
                width[p] = order - (31 - Integer.numberOfLeadingZeros(x));
                base[p] = (x << width[p]) - size;
            }
        }

        /** Of one symbol alone. */
        static Table alone(int s) {
            int[] points = new int[s + 1];
            points[s] = 1;
            return new Table(points);
        }

        int lowest(int s) {
            for (int p = 0; p < symbol.length; p++) {
                if (symbol[p] == s) {
                    return p;
                }
            }
            return -1;
        }

        int lowestWithBits(int s) {
            for (int p = 0; p < symbol.length; p++) {
                if (symbol[p] == s && width[p] > 0) {
                    return p;
                }
            }
            throw new IllegalStateException("no place takes bits");
        }

        int step(int s, int state, StringBuilder text) {
            int found = -1;
            for (int p = 0; p < symbol.length; p++) {
                if (symbol[p] == s && state >= base[p] && state < base[p] + (1 << width[p])) {
                    if (found >= 0) {
                        throw new IllegalStateException("two places");
                    }
                    found = p;
                }
            }
            text.append(bits(state - base[found], width[found]));
            return found;
        }

        /** -1 when a symbol has no place here. */
        int cost(int[] symbols) {
            for (int s : symbols) {
                if (lowest(s) < 0) {
                    return -1;
                }
            }
            StringBuilder text = new StringBuilder();
            int state = lowest(symbols[symbols.length - 1]);
            for (int i = symbols.length - 2; i >= 0; i--) {
                state = step(symbols[i], state, text);
            }
            return text.length() + order;
        }
    }

    // Sequences.

    static int literalBase(int s) {
        if (s < 16) {
            return s;
        }
        int[] bases = {16, 18, 20, 22, 24, 28, 32, 40, 48, 64};
        return s < 26 ? bases[s - 16] : 128 << (s - 26);
    }

    static int literalWidth(int s) {
        int[] widths = {1, 1, 1, 1, 2, 2, 3, 3, 4};
        return s < 16 ? 0 : s < 25 ? widths[s - 16] : s - 19;
    }

    static int matchBase(int s) {
        if (s < 32) {
            return s + 3;
        }
        int[] bases = {35, 37, 39, 41, 43, 47, 51, 59, 67, 83, 99};
        return s < 43 ? bases[s - 32] : (1 << (s - 36)) + 3;
    }

    static int matchWidth(int s) {
        int[] widths = {1, 1, 1, 1, 2, 2, 3, 3, 4, 4, 5};
        return s < 32 ? 0 : s < 43 ? widths[s - 32] : s - 36;
    }

    static int base(int kind, int s) {
        return kind == 0 ? literalBase(s) : kind == 1 ? 1 << s : matchBase(s);
    }

    static int width(int kind, int s) {
        return kind == 0 ? literalWidth(s) : kind == 1 ? s : matchWidth(s);
    }

    static int symbolOf(int kind, int value) {
        for (int s = 0; s <= LAST[kind]; s++) {
            long low = base(kind, s);
            if (value >= low && value < low + (1L << width(kind, s))) {
                return s;
            }
        }
        throw new IllegalStateException("no symbol");
    }

    /** What GOING finds. */
    static final class Found {
        final List<int[]> sequences = new ArrayList<>();
        byte[] literals = new byte[0];
        int[] latest;

        int[] values(int kind) {
            return sequences.stream().mapToInt(x -> x[kind]).toArray();
        }

        int[] symbols(int kind) {
            return sequences.stream().mapToInt(x -> symbolOf(kind, x[kind])).toArray();
        }
    }

    private static int common(byte[] data, int q, int p) {
        int n = 0;
        while (p + n < data.length && n < 131074 && data[q + n] == data[p + n]) {
            n++;
        }
        return n;
    }

    /** Distance and length of the match at p, null when there is none. */
    private int[] match(byte[] data, int p, long window, int way) {
        int[] best = null;
        for (int q = p - 1; q >= 0 && p - q <= window; q--) {
            int n = common(data, q, p);
            if (n >= least) {
                if (best == null || way >= 2 && n > best[1] || way == 1 && n >= 8 && best[1] < 8) {
                    best = new int[] {p - q, n};
                }
            }
        }
        if (way == 3 && best != null) {
            int[] next = match(data, p + 1, window, 2);
            if (next != null && next[1] > best[1]) {
                return null;
            }
        }
        return best;
    }

    Found go(byte[] data, int h, long window, int[] latest) {
        Found found = new Found();
        found.latest = latest.clone();
        List<Byte> literals = new ArrayList<>();
        int behind = h;
        int p = h;
        while (p < data.length) {
            int[] match = match(data, p, window, way);
            if (match == null) {
                literals.add(data[p++]);
                continue;
            }
            int length = p - behind;
            int v = 1;
            while (said(v, length, found.latest) != match[0]) {
                v++;
            }
            change(v, length, found.latest);
            found.sequences.add(new int[] {length, v, match[1]});
            p += match[1];
            behind = p;
        }
        found.literals = new byte[literals.size()];
        for (int i = 0; i < found.literals.length; i++) {
            found.literals[i] = literals.get(i);
        }
        return found;
    }

    static int said(int v, int length, int[] latest) {
        if (v > 3) {
            return v - 3;
        }
        int w = length == 0 ? v + 1 : v;
        return w == 4 ? latest[0] - 1 : latest[w - 1];
    }

    static void change(int v, int length, int[] latest) {
        int distance = said(v, length, latest);
        int w = v > 3 ? 4 : length == 0 ? v + 1 : v;
        int[] old = latest.clone();
        if (w > 1) {
            latest[0] = distance;
            latest[1] = old[0];
            latest[2] = w == 2 ? old[2] : old[1];
        }
    }

    // Blocks.

    private int[] codes;
    private final int[][] tables = new int[3][];
    private int[] latest;

    private static int[] counts(int[] symbols, int size) {
        int[] counts = new int[size];
        for (int s : symbols) {
            counts[s]++;
        }
        return counts;
    }

    static int[] freshCodes(byte[] literals) {
        int[] counts = new int[256];
        for (byte b : literals) {
            counts[b & 255]++;
        }
        if (Arrays.stream(counts).filter(c -> c > 0).count() < 2) {
            return null;
        }
        int[] lengths = lengthsByCounts(counts, 11);
        return description(lengths) == null ? null : lengths;
    }

    private static byte[] plainHead(int k, int n) {
        return n < 32 ? number(k + 8 * n, 1) : n < 4096 ? number(k + 4 + 16 * n, 2) : number(k + 12 + 16 * n, 3);
    }

    private static byte[] coded(int k, int n, byte[] behind) {
        if (n < 1024) {
            return behind.length < 1024 ? join(number(k + 16L * n + ((long) behind.length << 14), 3), behind) : null;
        }
        for (int l = 1; l < 4; l++) {
            int bits = l == 1 ? 10 : l == 2 ? 14 : 18;
            if (n < 1 << bits && behind.length < 1 << bits) {
                return join(number(k + 4 * l + 16L * n + ((long) behind.length << 4 + bits), l + 2), behind);
            }
        }
        return null;
    }

    private static boolean all(byte[] literals, int[] lengths) {
        for (byte b : literals) {
            if (lengths[b & 255] == 0) {
                return false;
            }
        }
        return true;
    }

    private static boolean same(byte[] row) {
        for (byte b : row) {
            if (b != row[0]) {
                return false;
            }
        }
        return row.length > 0;
    }

    /** The bits of mode 2 by the order, -1 for an order that is not there. */
    static int[] orderCosts(int[] symbols, int kind) {
        int[] counts = counts(symbols, LAST[kind] + 1);
        long different = Arrays.stream(counts).filter(c -> c > 0).count();
        int[] costs = new int[GREATEST[kind] + 1];
        for (int order = 0; order < costs.length; order++) {
            costs[order] = -1;
            if (order >= 5 && 1 << order >= different) {
                int[] points = byCounts(counts, order);
                costs[order] = 8 * told(points).length + new Table(points).cost(symbols);
            }
        }
        return costs;
    }

    /** The order that mode 2 takes. */
    static int cheapest(int[] costs) {
        int best = 0;
        for (int order = 5; order < costs.length; order++) {
            if (costs[order] >= 0 && (best == 0 || costs[order] < costs[best])) {
                best = order;
            }
        }
        return best;
    }

    /** The share of the order that mode 2 takes. */
    static int[] formed(int[] symbols, int kind) {
        return byCounts(counts(symbols, LAST[kind] + 1), cheapest(orderCosts(symbols, kind)));
    }

    private byte[] packed(Found found, int[][] tablesThen, int[][] codesThen, int[] told) {
        byte[] literals = found.literals;
        int n = literals.length;
        byte[][] ways = new byte[4][];
        ways[0] = join(plainHead(0, n), literals);
        if (same(literals)) {
            ways[1] = join(plainHead(1, n), number(literals[0], 1));
        }
        if (codes != null && all(literals, codes)) {
            ways[3] = coded(3, n, streams(codes, literals));
        }
        int[] fresh = freshCodes(literals);
        if (fresh != null) {
            ways[2] = coded(2, n, join(description(fresh), streams(fresh, literals)));
        }
        int k = 0;
        for (int way : new int[] {1, 3, 2}) {
            k = ways[way] != null && ways[way].length < ways[k].length ? way : k;
        }
        codesThen[0] = k == 2 ? fresh : codes;
        told[0] = k;
        Trial trial = new Trial();
        trials.add(trial);
        for (int way = 0; way < 4; way++) {
            trial.literals[way] = ways[way] == null ? -1 : ways[way].length;
        }
        int count = found.sequences.size();
        byte[] head = count < 128 ? number(count, 1)
            : count < 32512 ? new byte[] {(byte) (128 + count / 256), (byte) count}
            : join(number(255, 1), number(count - 32512, 2));
        byte[] all = join(ways[k], head);
        if (count == 0) {
            return all;
        }
        byte[] telling = new byte[0];
        Table[] taken = new Table[3];
        for (int kind = 0; kind < 3; kind++) {
            int[] symbols = found.symbols(kind);
            int[] cost = {new Table(KNOWN[kind]).cost(symbols), -1, -1, -1};
            if (Arrays.stream(symbols).distinct().count() == 1) {
                cost[1] = 8;
            }
            int[] orders = orderCosts(symbols, kind);
            int[] points = byCounts(counts(symbols, LAST[kind] + 1), cheapest(orders));
            cost[2] = orders[cheapest(orders)];
            if (tables[kind] != null) {
                cost[3] = new Table(tables[kind]).cost(symbols);
            }
            int mode = 2;
            for (int m : new int[] {0, 1, 2, 3}) {
                if (cost[m] >= 0 && (cost[m] < cost[mode] || cost[m] == cost[mode] && m < mode)) {
                    mode = m;
                }
            }
            told[1 + kind] = mode;
            trial.modes[kind] = cost;
            trial.orders[kind] = orders;
            int[] alone = new int[symbols[0] + 1];
            alone[symbols[0]] = 1;
            tablesThen[kind] = mode == 0 ? KNOWN[kind] : mode == 1 ? alone : mode == 2 ? points : tables[kind];
            telling = join(telling, mode == 1 ? number(symbols[0], 1) : mode == 2 ? told(points) : new byte[0]);
            taken[kind] = new Table(tablesThen[kind]);
        }
        int modes = 64 * told[1] + 16 * told[2] + 4 * told[3];
        return join(all, number(modes, 1), telling, sequenceStream(found, taken));
    }

    private static byte[] sequenceStream(Found found, Table[] taken) {
        StringBuilder text = new StringBuilder();
        int[][] symbols = {found.symbols(0), found.symbols(1), found.symbols(2)};
        int[] states = new int[3];
        int n = found.sequences.size();
        for (int i = n - 1; i >= 0; i--) {
            for (int kind : new int[] {1, 2, 0}) {
                int s = symbols[kind][i];
                states[kind] = i == n - 1 ? taken[kind].lowest(s) : taken[kind].step(s, states[kind], text);
            }
            for (int kind : new int[] {0, 2, 1}) {
                int s = symbols[kind][i];
                text.append(bits(found.sequences.get(i)[kind] - base(kind, s), width(kind, s)));
            }
        }
        for (int kind : new int[] {2, 1, 0}) {
            text.append(bits(states[kind], taken[kind].order));
        }
        return bytes(text.append('1').toString());
    }

    /** The frame, null when the call is refused. */
    byte[] press(byte[] in, int flags, int e, int cut) {
        boolean single = (flags & 4) != 0;
        if (flags < 0 || flags > 15 || e < 0 || e > 11 || cut < 1 || cut > 8000 || !single && cut > 1024 << e) {
            return null;
        }
        long window = single ? in.length : 1024L << e;
        codes = book.lengths;
        latest = book.latest.clone();
        System.arraycopy(book.tables, 0, tables, 0, 3);
        int[] now = new int[12];
        byte[] frame = head(in, flags, e);
        trials = new ArrayList<>();
        int from = 0;
        do {
            int to = Math.min(in.length, from + cut);
            byte[] row = Arrays.copyOfRange(in, from, to);
            int end = to == in.length ? 1 : 0;
            byte[] data = join(book.content, Arrays.copyOf(in, to));
            if (same(row)) {
                frame = join(frame, number(8L * row.length + 2 + end, 3), number(row[0], 1));
                now[1]++;
            } else {
                Found found = go(data, data.length - row.length, window, latest);
                int[][] tablesThen = new int[3][];
                int[][] codesThen = new int[1][];
                int[] told = new int[4];
                byte[] packed = packed(found, tablesThen, codesThen, told);
                trials.get(trials.size() - 1).row = row.length;
                trials.get(trials.size() - 1).packed = packed.length;
                if (packed.length < row.length) {
                    frame = join(frame, number(8L * packed.length + 4 + end, 3), packed);
                    latest = found.latest;
                    codes = codesThen[0];
                    now[2]++;
                    now[3] += found.sequences.size();
                    now[4 + told[0]]++;
                    for (int kind = 0; kind < 3 && !found.sequences.isEmpty(); kind++) {
                        tables[kind] = tablesThen[kind];
                        now[8 + told[1 + kind]]++;
                    }
                } else {
                    frame = join(frame, number(8L * row.length + end, 3), row);
                    now[0]++;
                }
            }
            from = to;
        } while (from < in.length);
        if ((flags & 1) != 0) {
            frame = join(frame, number(FrameReader.wideSum(in).longValue(), 4));
        }
        if (frame.length > 12000) {
            return null;
        }
        abouts = now;
        return frame;
    }

    private byte[] head(byte[] in, int flags, int e) {
        boolean single = (flags & 4) != 0;
        int n = in.length;
        int f = (flags & 6) == 0 ? 0 : single && n < 256 ? 0 : n >= 256 && n < 65792 ? 1 : 2;
        int[] sizes = {single ? 1 : 0, 2, 4};
        int g = (flags & 8) == 0 || book.id == 0 ? 0 : book.id < 256 ? 1 : book.id < 65536 ? 2 : 3;
        int[] ids = {0, 1, 2, 4};
        return join(new byte[] {40, (byte) 181, 47, (byte) 253},
            number(64 * f + (single ? 32 : 0) + ((flags & 1) != 0 ? 4 : 0) + g, 1),
            single ? new byte[0] : number(8 * e, 1), number(book.id, ids[g]),
            number(f == 1 ? n - 256 : n, sizes[f]));
    }

    /** The formed dictionary, null when the call is refused. */
    byte[] make(byte[] in, int id) {
        if (in.length < 8) {
            return null;
        }
        Found found = go(in, 0, 1 << 20, new int[] {1, 4, 8});
        int[] fresh = freshCodes(found.literals);
        if (found.sequences.isEmpty() || fresh == null) {
            return null;
        }
        return join(new byte[] {55, (byte) 164, 48, (byte) 236}, number(id, 4), description(fresh),
            told(formed(found.symbols(1), 1)), told(formed(found.symbols(2), 2)),
            told(formed(found.symbols(0), 0)), number(1, 4), number(4, 4), number(8, 4), in);
    }
}
