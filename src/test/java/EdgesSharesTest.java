import java.util.Arrays;

/** The boundary cases of promises 9 and 10 in SHARES: points by counts, and how they are written. */
public final class EdgesSharesTest {
    private static final Checks CHECKS = new Checks();
    /** Where the three shares stand among those of PlainPress: literal lengths, distances, match lengths. */
    private static final int LITERALS = 0;
    private static final int DISTANCES = 1;
    private static final int MATCHES = 2;

    public static void main(String[] args) {
        belowOne();
        lacking();
        tooMuch();
        oneSymbol();
        zeros();
        highest();
        endsOfBytes();
        differentSymbols();
        orders();
        CHECKS.end();
    }

    /** The dictionary that is made of a row with match lengths of these symbols, one behind the other. */
    private static byte[] made(String name, int... symbols) {
        Weaver weaver = new Weaver(symbols.length).literals(40);
        int[] places = new int[symbols.length];
        for (int i = 0; i < symbols.length; i++) {
            places[i] = weaver.length();
            weaver.literals(PlainPress.matchBase(symbols[i]) + 1);
        }
        for (int i = 0; i < symbols.length; i++) {
            weaver.sequenceFrom(1, places[i], PlainPress.matchBase(symbols[i]));
        }
        byte[] row = weaver.literals(1).row();
        PlainPress plain = new PlainPress();
        int[] found = plain.go(row, 0, 8000, new int[] {1, 4, 8}).symbols(MATCHES);
        CHECKS.due(name + ": the symbols", Arrays.equals(found, symbols), true);
        StatePress x = new StatePress();
        Checks.feed(x, row);
        byte[] want = plain.make(row, 1);
        CHECKS.due(name + ": make", x.make(1), want.length);
        byte[] out = Checks.out(x);
        CHECKS.due(name + ": made", out, want);
        return out;
    }

    /** So many of each symbol from 0 on, as evenly as can be. */
    private static int[] symbols(int... counts) {
        int n = Arrays.stream(counts).sum();
        int[] left = counts.clone();
        int[] row = new int[n];
        for (int i = 0; i < n; i++) {
            int best = 0;
            for (int s = 0; s < counts.length; s++) {
                best = left[best] == 0 || (long) left[s] * counts[best] > (long) left[best] * counts[s] ? s : best;
            }
            row[i] = best;
            left[best]--;
        }
        return row;
    }

    private static void points(String name, int[] counts, int... want) {
        int[] points = FrameReader.book(made(name, symbols(counts))).tables[MATCHES];
        int[] all = Arrays.copyOf(want, 53);
        CHECKS.due(name + " " + Arrays.toString(Arrays.copyOf(points, want.length)), Arrays.equals(points, all), true);
    }

    private static void belowOne() {
        CHECKS.says(10, "a symbol with c = 0 has 0 points; if c * 2^L is below N, -1; otherwise c * 2^L / N, cut.");
        points("1 of 31", new int[] {30, 1}, 31, 1);
        points("1 of 32", new int[] {31, 1}, 31, 1);
        points("1 of 33", new int[] {32, 1}, 31, -1);
        points("1 of 34, the first", new int[] {1, 33}, -1, 31);
        points("two of 64", new int[] {62, 2}, 31, 1);
        points("two of 65", new int[] {63, 2}, 31, -1);
        points("a count of 0", new int[] {16, 0, 16}, 16, 0, 16);
    }

    private static void lacking() {
        CHECKS.says(10, "If the masses together lack something, those of 1 or more points get one more each,"
            + " in the order of what was cut off (the greatest first, of the same the lower symbol first), again and again until nothing lacks.");
        // 10 and two thirds each: two lack.
        points("thirds", new int[] {1, 1, 1}, 11, 11, 10);
        // 21 and a third, 10 and two thirds.
        points("two thirds, one third", new int[] {2, 1}, 21, 11);
        points("one third, two thirds", new int[] {1, 2}, 11, 21);
        // 4 and 4 sevenths each: four lack.
        points("sevenths", new int[] {1, 1, 1, 1, 1, 1, 1}, 5, 5, 5, 5, 4, 4, 4);
        // Nothing lacks.
        points("halves", new int[] {2, 2}, 16, 16);
        points("a quarter, three quarters", new int[] {1, 3}, 8, 24);
        // 1 and 7 25ths of 25 symbols: seven lack.
        int[] many = new int[25];
        Arrays.fill(many, 1);
        int[] want = new int[25];
        Arrays.fill(want, 1);
        Arrays.fill(want, 0, 7, 2);
        points("25ths", many, want);
        // 1 and 15 17ths each: fifteen lack, all but two get one.
        many = Arrays.copyOf(many, 17);
        want = new int[17];
        Arrays.fill(want, 2);
        Arrays.fill(want, 15, 17, 1);
        points("17ths", many, want);
        // Symbols of -1 get none, though more is cut off: 31 and 1 33rd, and -1.
        points("one of -1", new int[] {32, 1}, 31, -1);
    }

    private static void tooMuch() {
        CHECKS.says(10, "If they are too much, one point is taken from the symbol with the most points (of the same the lowest), again and again.");
        // 30 symbols once, one 5 times: -1 each, and 4 of 35, two are taken; seen where order 5 is the best.
        for (int rare = 20; rare <= 31; rare++) {
            for (int heavy = 2; heavy <= 12; heavy++) {
                int[] counts = new int[rare + 2];
                Arrays.fill(counts, 1);
                counts[3] = heavy;
                counts[5] = heavy;
                taken(counts);
            }
        }
        CHECKS.due("shares that are too much, told", tooMuch > 5, true);
        CHECKS.due("and of these with as many points for two", evenly > 0, true);
    }

    private static int tooMuch;
    private static int evenly;

    private static void taken(int[] counts) {
        int[] symbols = symbols(counts);
        int[] costs = PlainPress.orderCosts(symbols, MATCHES);
        int order = PlainPress.cheapest(costs);
        int total = Arrays.stream(counts).sum();
        int mass = 0;
        for (int c : counts) {
            mass += c << order < total ? 1 : (c << order) / total;
        }
        if (mass <= 1 << order) {
            return;
        }
        int[] points = FrameReader.book(made("too much", symbols)).tables[MATCHES];
        tooMuch++;
        int over = mass - (1 << order);
        int each = (counts[3] << order) / total;
        CHECKS.due("what the lower one has", points[3], each - (over + 1) / 2);
        CHECKS.due("what the higher one has", points[5], each - over / 2);
        evenly += over % 2;
    }

    private static void oneSymbol() {
        CHECKS.says(10, "shares by the counts of the symbols of its sequences, each of the order that mode 2 would take;");
        points("one sequence", new int[] {1}, 32);
        points("five of the same", new int[] {0, 0, 5}, 0, 0, 32);
    }

    private static void told(String name, byte[] book, String bits) {
        int described = (book[8] & 255) > 127 ? ((book[8] & 255) - 126) / 2 : book[8];
        int at = 9 + described;
        PlainPress.Book read = FrameReader.book(book);
        at += PlainPress.told(trimmed(read.tables[DISTANCES])).length;
        byte[] want = PlainPress.bytes(bits);
        CHECKS.due(name, Arrays.copyOfRange(book, at, at + want.length), want);
        CHECKS.due(name + ", its length", PlainPress.told(trimmed(read.tables[MATCHES])).length, want.length);
        at += want.length + PlainPress.told(trimmed(read.tables[LITERALS])).length;
        CHECKS.due(name + ", what is behind", Arrays.copyOfRange(book, at, at + 12), Books.LATEST);
    }

    private static int[] trimmed(int[] points) {
        int n = points.length;
        while (points[n - 1] == 0) {
            n--;
        }
        return Arrays.copyOf(points, n);
    }

    /** 16 points, so many symbols of 0, 16 points. */
    private static void zeros() {
        CHECKS.says(10, "Behind a symbol with 0 points stands, in 2 bits each, how many of the next have 0 points, too:"
            + " 3 as long as three do and it goes on, at last 0 .. 2.");
        String[] more = {"", "1000" + "00", "1000" + "10", "1000" + "01", "1000" + "1100", "1000" + "1110", "1000" + "1101",
            "1000" + "111100", "1000" + "111110", "1000" + "111101", "1000" + "11111100"};
        for (int n = 0; n < more.length; n++) {
            // Order 5 is 0; 17 of 32 in five bits; 0 points are 1 of 16 in four bits; 17 of 16 is 31 in five bits.
            told(n + " zeros", made(n + " zeros", 0, n + 1, 0, n + 1), "0000" + "10001" + more[n] + "11111");
        }
        // Zeros before: 0 points are 1 of 32 in five bits, then 33 of 32 is 63 in six bits.
        String[] before = {"00", "10", "01", "1100", "1110", "1101", "111100"};
        for (int n = 1; n <= before.length; n++) {
            told(n + " zeros before", made(n + " zeros before", n, n, n), "0000" + "10000" + before[n - 1] + "111111");
        }
    }

    /** Numbers below m, from m to below t, and from t on. */
    private static void highest() {
        CHECKS.says(10, "Then symbols from 0 on, as long as the masses together are below 2^L:");
        CHECKS.says(10, "R being what lacks, the points and 1 are a number u from 0 to R + 1;");
        CHECKS.says(10, "t is the greatest power of two not above R + 1, and m = 2 t - 2 - R:");
        CHECKS.says(10, "u below m takes as many bits as t - 1 has; another one, one bit more: u itself if it is below t, else u + m.");
        // R 32: t 32, m 30: 29 is in five bits, 30 and 31 in six, 32 is 62 and 33 is 63 in six.
        told("28 and 4", made("28 and 4", symbols(28, 4)), "0000" + "10111" + "111");
        told("29 and 3", made("29 and 3", symbols(29, 3)), "0000" + "011110" + "111");
        told("30 and 2", made("30 and 2", symbols(30, 2)), "0000" + "111110" + "11");
        told("31 and 1", made("31 and 1", symbols(31, 1)), "0000" + "011111" + "11");
        told("all", made("all", symbols(7)), "0000" + "111111");
        // 0 points behind a rare one: R 31: t 32, m 31: 0 is told in five bits, 1, too.
        told("rare and 31", made("rare and 31", symbols(1, 33)), "0000" + "00000" + "11111" + "1");
    }

    /** Shares of every number of bits: the share behind begins with a byte of its own. */
    private static void endsOfBytes() {
        CHECKS.says(10, "what is written comes behind the bits before, zeros up to the end of a byte at last.");
        int[] seen = new int[8];
        for (int a = 1; a < 32; a++) {
            byte[] book = made(a + " and " + (32 - a), symbols(a, 32 - a));
            int[] points = trimmed(FrameReader.book(book).tables[MATCHES]);
            String bits = PlainPress.toldBits(points);
            told(a + " and " + (32 - a), book, bits + "0".repeat((8 - bits.length() % 8) % 8));
            seen[bits.length() % 8]++;
            book = made(a + ", none and " + (32 - a), spread(symbols(a, 32 - a)));
            bits = PlainPress.toldBits(trimmed(FrameReader.book(book).tables[MATCHES]));
            told(a + ", none and " + (32 - a), book, bits + "0".repeat((8 - bits.length() % 8) % 8));
            seen[bits.length() % 8]++;
        }
        int all = 0;
        for (int n : seen) {
            all += n > 0 ? 1 : 0;
        }
        CHECKS.due("ends at many bits: " + Arrays.toString(seen), all >= 4, true);
    }

    private static int[] spread(int[] symbols) {
        int[] other = symbols.clone();
        for (int i = 0; i < other.length; i++) {
            other[i] *= 3;
        }
        return other;
    }

    private static void differentSymbols() {
        CHECKS.says(9, "of an order from 5 on to the greatest that has as many points as there are different symbols:");
        for (int n = 30; n <= 36; n++) {
            int[] row = new int[n];
            for (int i = 0; i < n; i++) {
                row[i] = i;
            }
            int[] points = trimmed(FrameReader.book(made(n + " different symbols", row)).tables[MATCHES]);
            CHECKS.due(n + " different symbols, their order", PlainPress.order(points) >= 6, n > 32);
            CHECKS.due(n + " different symbols, all told", (int) Arrays.stream(points).filter(x -> x != 0).count(), n);
        }
    }

    /**
     * A dictionary with every fourth byte changed has copies of three bytes from always the same distance; where now and then one is
     * not changed, or two are, or the distance is another one, rare symbols want an order as great as can be.
     */
    private static void orders() {
        CHECKS.says(9, "Greatest orders 9, 8, 9, LAST 35, 31, 52.");
        byte[] content = new Weaver(1).literals(8000).row();
        int[][] seen = new int[3][10];
        for (int rare = 10; rare <= 110; rare += 20) {
            byte[] row = skewed(content, rare);
            StatePress x = new StatePress();
            Checks.feed(x, content);
            x.learn();
            Checks.feed(x, row);
            PlainPress plain = new PlainPress();
            plain.book = FrameReader.book(content);
            byte[] want = plain.press(row, 0, 4, 8000);
            CHECKS.due("press", x.press(0, 4, 8000), want.length);
            CHECKS.due("the frame", Checks.out(x), want);
            FrameReader.Block block = FrameReader.blocks(Checks.out(x), plain.book).get(0);
            for (int kind = 0; kind < 3; kind++) {
                if (block.modes[kind] == 2) {
                    seen[kind][PlainPress.order(block.points[kind])]++;
                }
            }
        }
        for (int kind = 0; kind < 3; kind++) {
            CHECKS.due("the greatest order is seen: " + Arrays.toString(seen[kind]), seen[kind][PlainPress.GREATEST[kind]] > 0, true);
        }
    }

    private static byte[] skewed(byte[] content, int rare) {
        byte[] row = new byte[7600];
        int place = 0;
        for (int i = 0, n = 0; i < row.length; n++) {
            int kind = n % rare == rare - 1 ? n / rare % 3 : -1;
            if (kind == 2) {
                place += 3 + n % 7;
            }
            int literals = kind == 0 ? 2 + n % 3 : 1;
            int length = kind == 1 ? 4 + n % 5 : 3;
            for (int j = 0; j < literals + length && i < row.length; j++) {
                row[i] = (byte) (content[place++] + (j < literals ? 1 + n % 200 : 0));
                i++;
            }
        }
        return row;
    }
}
