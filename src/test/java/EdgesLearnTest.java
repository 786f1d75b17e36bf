import java.util.Arrays;
import java.util.Random;

/** The boundary cases of promises 7 and 8, learn and forget: of marks, ends, descriptions, shares and distances. */
public final class EdgesLearnTest {
    private static final Checks CHECKS = new Checks();
    private static final String WRONG = "It is WRONG if its bytes end within it, its share is, no byte is left for the stream, the last one is 0,"
        + " it has fewer bits than two states, more than 255 weights come, S is 0, T is above 11, 2^T - S is no power of two,"
        + " or fewer than two weights (with the next one) are 1.";

    public static void main(String[] args) {
        marks();
        plainSizes();
        formedSizes();
        ends();
        endsOfDescriptions();
        directOrStates();
        sums();
        tops();
        powers();
        ones();
        streams();
        bitsLeft();
        manyWeights();
        weightShares();
        orders();
        lasts();
        lacking();
        shareEnds();
        distances();
        firstThatComes();
        answers();
        numbersOfShares();
        stays();
        oneAfterAnother();
        ids();
        forget();
        forgetLatest();
        forgetTables();
        CHECKS.end();
    }

    private static void learns(String name, byte[] row, int want) {
        Books.learns(CHECKS, name, row, want);
    }

    private static byte[] join(byte[]... rows) {
        return PlainPress.join(rows);
    }

    private static void marks() {
        CHECKS.says(7, "If its bytes begin with 55, 164, 48, 236,");
        for (int n = 0; n <= 3; n++) {
            learns(n + " bytes of the mark", Arrays.copyOf(Books.MARK, n), n);
        }
        learns("the mark alone", Books.MARK, -1);
        byte[] right = join(Books.MARK, Books.ID, Books.CODES, Books.SHARES, Books.LATEST, Books.CONTENT);
        learns("a formed one", right, 8);
        for (int i = 0; i < 4; i++) {
            for (int by = -1; by <= 1; by += 2) {
                byte[] row = right.clone();
                row[i] += (byte) by;
                learns("byte " + i + " of the mark and " + by, row, row.length);
            }
        }
        learns("the mark behind a byte", join(Checks.bytes(0), right), right.length + 1);
        learns("the mark backwards", Checks.bytes(236, 48, 164, 55, 1, 2, 3, 4), 8);
    }

    private static void plainSizes() {
        CHECKS.says(7, "Otherwise all is content, and the ID is 0.");
        for (int n : new int[] {0, 1, 2, 3, 4, 7, 8, 7999, 8000}) {
            byte[] row = Checks.row(new Random(n), n);
            learns("plain, " + n + " bytes", row, n);
            StatePress x = new StatePress();
            Checks.feed(x, row);
            x.learn();
            CHECKS.due("no ID with " + n, x.press(8, 0, 1), 9);
        }
        learns("zeros", new byte[8000], 8000);
        // Whatever was learned before, and how often: nothing of it is left.
        for (int formed = 1; formed <= 3; formed++) {
            for (int plains = 1; plains <= 3; plains++) {
                StatePress x = new StatePress();
                for (int i = 0; i < formed; i++) {
                    Checks.feed(x, book());
                    CHECKS.due("learn() of a formed one", x.learn(), Twins.ROW.length);
                }
                for (int i = 0; i < plains; i++) {
                    Checks.feed(x, Checks.text("plain"));
                    CHECKS.due("learn() of a plain one", x.learn(), 5);
                }
                PlainPress plain = new PlainPress();
                plain.book.content = Checks.text("plain");
                Checks.feed(x, Twins.ROW);
                x.press(8, 0, 1024);
                CHECKS.due(formed + " formed, " + plains + " plain ones: the frame", Checks.out(x), plain.press(Twins.ROW, 8, 0, 1024));
                CHECKS.due("no codes, no tables", x.about(7) + x.about(11), 0);
            }
        }
    }

    private static void formedSizes() {
        CHECKS.says(7, "IN becomes the DICTIONARY, and empty: how many bytes of content it has.");
        byte[] head = join(Books.MARK, Books.ID, Books.CODES, Books.SHARES, Books.latest(1, 1, 1));
        learns("formed, no content", head, -4);
        for (int n : new int[] {1, 2, 8000 - head.length - 1, 8000 - head.length}) {
            learns("formed, content of " + n, join(head, Checks.row(new Random(n), n)), n);
        }
        StatePress x = new StatePress();
        Checks.feed(x, join(head, new byte[8000 - head.length]));
        CHECKS.due("a full IN", x.write(0, 1), false);
        CHECKS.due("learn() of it", x.learn(), 8000 - head.length);
        CHECKS.due("IN then", x.again(1, 0), false);
        CHECKS.due("learn() of the empty IN then", x.learn(), 0);
        CHECKS.due("8,000 bytes then", x.write(0, 1) && x.again(1, 7999), true);
    }

    private static void ends() {
        CHECKS.says(7, "-1 its bytes end within what is told;");
        byte[] told = join(Books.MARK, Books.ID, Books.CODES, Books.SHARES, Books.LATEST);
        int shares = 10 + Books.SHARES.length;
        for (int n = 4; n < 8; n++) {
            learns("an end within the ID, at " + n, Arrays.copyOf(told, n), -1);
        }
        for (int n = shares; n < told.length; n++) {
            learns("an end within the distances, at " + n, Arrays.copyOf(told, n), -1);
        }
        learns("no end within them, and no content", told, -4);
        learns("no end within them, and enough content", join(told, Books.CONTENT), 8);
        CHECKS.says(7, "an end within a description or share is their being WRONG");
        for (int n = 8; n < 10; n++) {
            learns("an end within the description, at " + n, Arrays.copyOf(told, n), -2);
        }
        for (int n = 10; n < shares; n++) {
            learns("an end within a share, at " + n, Arrays.copyOf(told, n), -3);
        }
    }

    private static void endsOfDescriptions() {
        CHECKS.says(7, WRONG);
        byte[] direct = Checks.bytes(127 + 12, 0x11, 0x23, 0x45, 0x67, 0x89, 0xA0);
        int[] points = {0, 16, 0, 16};
        byte[] states = Books.byStates(points, 1, 1, 3, 1, 1, 3, 3);
        for (byte[] description : new byte[][] {direct, states, Checks.bytes(255), Checks.bytes(127), Checks.bytes(1)}) {
            for (int n = 0; n < description.length; n++) {
                learns("the first " + n + " of " + description.length + " bytes", join(Books.MARK, Books.ID, Arrays.copyOf(description, n)), -2);
            }
        }
        learns("all the bytes of direct weights", Books.described(direct), 8);
        learns("all the bytes of weights by states", Books.described(states), 8);
        // Of 127 bytes, or of 128 weights in 64 bytes, the last one is not there.
        learns("126 of 127 bytes", Arrays.copyOf(join(Books.MARK, Books.ID, Checks.bytes(127), states), 9 + 126), -2);
        byte[] most = new byte[65];
        Arrays.fill(most, (byte) 0x11);
        most[0] = -1;
        learns("63 of 64 bytes", Arrays.copyOf(join(Books.MARK, Books.ID, most), 9 + 63), -2);
        learns("64 of 64 bytes", Books.described(most), 8);
    }

    /** The first byte: 127 is by states, 128 is one weight. */
    private static void directOrStates() {
        CHECKS.says(7, "READ: a byte x. If it is above 127, x - 127 weights, two a byte, the upper four bits first.");
        learns("one weight", Books.described(Checks.bytes(128, 0x10)), 8);
        for (int lower = 0; lower < 16; lower++) {
            learns("one weight, and another half", Books.described(Checks.bytes(128, 0x10 + lower)), 8);
        }
        learns("two weights", Books.described(Checks.bytes(129, 0x12)), 8);
        learns("two weights, the second one as the first", Books.described(Checks.bytes(129, 0x21)), 8);
        for (int k = 126; k <= 128; k++) {
            byte[] row = new byte[1 + (k + 1) / 2];
            Arrays.fill(row, (byte) 0x11);
            row[0] = (byte) (127 + k);
            // 126 and 2, 127 and 1, 128 and 128.
            learns(k + " weights of 1", Books.described(row), 8);
        }
        CHECKS.says(7, "a share told, of order 6 at most and LAST 11, then, from the byte behind it to the end of the x bytes, a stream:");
        learns("no bytes by states", Books.described(Checks.bytes(0)), -2);
        learns("one byte by states", Books.described(Checks.bytes(1, 0x00)), -2);
        learns("127 bytes by states", Books.described(states127(0)), 8);
        learns("127 bytes by states, the last one 0", Books.described(states127(1)), -2);
    }

    /** A description of 127 bytes, with weights of 1 and 2 that take six bits each. */
    private static byte[] states127(int wrong) {
        int[] points = {62, -1, -1};
        for (int twos = 0; twos < 64; twos++) {
            // S is 192, and the next weight is 7.
            int[] weights = new int[192 - twos];
            Arrays.fill(weights, 1);
            Arrays.fill(weights, 0, twos, 2);
            byte[] row = Books.byStates(points, weights);
            if (row.length == 128) {
                row[127] = wrong > 0 ? 0 : row[127];
                return row;
            }
        }
        throw new IllegalStateException("none has 127 bytes");
    }

    private static void sums() {
        CHECKS.says(7, "S is 0,");
        learns("one weight of 0", Books.described(Checks.bytes(128, 0x00)), -2);
        learns("four weights of 0", Books.described(Checks.bytes(131, 0x00, 0x00)), -2);
        learns("one weight of 1 alone", Books.described(Checks.bytes(131, 0x00, 0x01)), 8);
        learns("a 1 that counts for nothing", Books.described(Checks.bytes(130, 0x00, 0x01)), -2);
        int[] points = {16, 16};
        learns("two weights of 0 by states", Books.described(Books.byStates(points, 0, 0)), -2);
        learns("0 and 1 by states", Books.described(Books.byStates(points, 0, 1)), 8);
    }

    private static byte[] direct(int... weights) {
        byte[] row = new byte[1 + (weights.length + 1) / 2];
        row[0] = (byte) (127 + weights.length);
        for (int i = 0; i < weights.length; i++) {
            row[1 + i / 2] |= (byte) (i % 2 == 0 ? weights[i] << 4 : weights[i]);
        }
        return Books.described(row);
    }

    private static void tops() {
        CHECKS.says(7, "T is the greatest, at most 11.");
        CHECKS.says(7, "T is above 11,");
        learns("S of 1023, T 10", direct(1, 2, 3, 4, 5, 6, 7, 8, 9, 10), 8);
        learns("S of 1024, T 11", direct(1, 1, 2, 3, 4, 5, 6, 7, 8, 9, 10), 8);
        learns("S of 2047, T 11", direct(1, 2, 3, 4, 5, 6, 7, 8, 9, 10, 11), 8);
        learns("S of 2048, T 12", direct(1, 1, 2, 3, 4, 5, 6, 7, 8, 9, 10, 11), -2);
        learns("S of 2048 by a weight of 12, T 12", direct(12), -2);
        for (int weight = 12; weight <= 15; weight++) {
            learns("a weight of " + weight, direct(1, 1, weight), -2);
            learns("a weight of " + weight + " alone", direct(weight), -2);
        }
        int[] all = new int[128];
        Arrays.fill(all, 15);
        learns("128 weights of 15", direct(all), -2);
        learns("a weight of 11", direct(11, 1, 1, 2, 3, 4, 5, 6, 7, 8, 9), 8);
    }

    private static void powers() {
        CHECKS.says(7, "With S the sum of 2^(weight - 1) over the weights above 0 and T the least number with 2^T above S,"
            + " the next symbol has the weight v with 2^(v - 1) = 2^T - S.");
        next("S of 1", direct(1), 1, 1);
        next("S of 2", direct(1, 1), 2, 2, 1);
        next("S of 3", direct(0, 1, 1, 1), 0, 2, 2, 2, 2);
        next("S of 4", direct(1, 1, 2), 3, 3, 2, 1);
        next("S of 1023", direct(1, 2, 3, 4, 5, 6, 7, 8, 9, 10), 10, 9, 8, 7, 6, 5, 4, 3, 2, 1, 10);
        next("S of 1024", direct(1, 1, 2, 3, 4, 5, 6, 7, 8, 9, 10), 11, 11, 10, 9, 8, 7, 6, 5, 4, 3, 2, 1);
        CHECKS.says(7, "2^T - S is no power of two,");
        learns("S of 1: 1 lacks", direct(1), 8);
        learns("S of 2: 2 lack", direct(1, 1), 8);
        learns("S of 3: 1 lacks", direct(1, 1, 1), 8);
        learns("S of 4: 4 lack", direct(1, 1, 2), 8);
        learns("S of 5: 3 lack", direct(1, 3), -2);
        learns("S of 6: 2 lack", direct(1, 1, 3), 8);
        learns("S of 7: 1 lacks", direct(1, 2, 3), 8);
        learns("S of 9: 7 lack", direct(1, 4), -2);
        learns("S of 10: 6 lack", direct(1, 1, 4), -2);
        learns("S of 12: 4 lack", direct(1, 1, 2, 4), 8);
    }

    /** The lengths that the second opinion reads, to which learn() is held. */
    private static void next(String name, byte[] row, int... lengths) {
        CHECKS.due(name + ": the lengths", Arrays.equals(FrameReader.book(row).lengths, Arrays.copyOf(lengths, 256)), true);
        learns(name, row, 8);
    }

    private static void ones() {
        CHECKS.says(7, "The sum of 2^(T - LENGTH) over all that have codes is 2^T, so two at least have length T.");
        learns("two of length T", direct(1, 2), 8);
        learns("none of length T", direct(2, 3), -2);
        CHECKS.says(7, "or fewer than two weights (with the next one) are 1.");
        learns("none, and the next is 2", direct(2), -2);
        learns("none, and the next is 3", direct(2, 2), -2);
        learns("none, and the next is 11", direct(11), -2);
        learns("one, and the next is 1", direct(2, 1), 8);
        learns("two, and the next is 3", direct(2, 1, 1), 8);
        learns("three, and the next is 1", direct(1, 1, 1), 8);
    }

    private static void streams() {
        CHECKS.says(7, "no byte is left for the stream, the last one is 0, it has fewer bits than two states,");
        for (int order = 5; order <= 6; order++) {
            int half = 1 << (order - 1);
            int[] points = {half, half};
            byte[] share = PlainPress.told(points);
            String two = Books.twoStates(points, 1, 1);
            learns("order " + order + ": no byte for the stream", Books.described(Books.byStates(share, new byte[0])), -2);
            for (int bits = 0; bits <= 2 * order; bits++) {
                byte[] stream = PlainPress.bytes(two.substring(two.length() - bits) + "1");
                learns("order " + order + ": a stream of " + bits + " bits", Books.described(Books.byStates(share, stream)),
                    bits < 2 * order ? -2 : 8);
                learns("order " + order + ": a stream of " + bits + " bits and a byte of 0",
                    Books.described(Books.byStates(share, join(stream, new byte[1]))), -2);
            }
            byte[] cut = join(PlainPress.number(share.length - 1, 1), share, Checks.bytes(255, 255));
            learns("order " + order + ": the share ends beyond its bytes", Books.described(cut), -2);
        }
    }

    /** A weight of 1 takes five bits here, so that four more are too few, and five are enough. */
    private static void bitsLeft() {
        CHECKS.says(7, "what is read of it are always the highest bits below the END, or below what was read.");
        // Each weight behind the first two takes a bit, so that the END is at each bit of a byte.
        for (int more = 0; more < 16; more++) {
            int[] weights = new int[2 + more];
            weights[0] = 1;
            weights[1] = 1;
            learns("an END above " + (10 + more) + " bits", Books.described(Books.byStates(new int[] {16, 16}, weights)), 8);
        }
        CHECKS.says(7, "when fewer bits are left than it takes, the symbol of the other state comes, and that is all.");
        int[] points = {0, -1, 31};
        byte[] share = PlainPress.told(points);
        String two = Books.twoStates(points, 1, 1);
        CHECKS.due("a row of two weights has ten bits", two.length(), 10);
        for (int bits = 0; bits <= 12; bits++) {
            byte[] row = Books.described(Books.byStates(share, PlainPress.bytes("1".repeat(bits) + two + "1")));
            learns(bits + " bits more", row, 8);
            int weights = bits < 5 ? 2 : bits < 10 ? 3 : 4;
            int coded = (int) Arrays.stream(FrameReader.book(row).lengths).filter(x -> x > 0).count();
            CHECKS.due("codes with " + bits + " bits more", coded, weights + 1);
        }
        // A place that takes no bits goes on when none is left: 31 points have such places, 16 have not.
        learns("weights that end", Books.described(Books.byStates(new int[] {0, 16, 16}, 1, 1)), 8);
        learns("weights without an end", Books.described(Books.byStates(new int[] {0, 32}, 1, 1)), -2);
    }

    private static void manyWeights() {
        CHECKS.says(7, "more than 255 weights come,");
        int[] points = {16, 16};
        for (int n = 250; n <= 260; n++) {
            int[] weights = new int[n];
            // S of 252, 254, 255 and 256 would be right but for the number of the weights.
            int ones = n < 252 ? 248 : n == 253 ? 252 : Math.min(n, 256);
            Arrays.fill(weights, 0, ones, 1);
            learns(n + " weights, " + ones + " of 1", Books.described(Books.byStates(points, weights)), n <= 255 ? 8 : -2);
            Arrays.fill(weights, 0);
            weights[n - 1] = 1;
            learns(n + " weights, the last one of 1", Books.described(Books.byStates(points, weights)), n <= 255 ? 8 : -2);
        }
    }

    /** The share of the weights: its order, its last symbol, what lacks behind it. */
    private static void weightShares() {
        CHECKS.says(7, "a share told, of order 6 at most and LAST 11,");
        for (int order = 5; order <= 8; order++) {
            int half = 1 << (order - 1);
            learns("order " + order, Books.described(Books.byStates(new int[] {half, half}, 1, 1)), order <= 6 ? 8 : -2);
        }
        for (int last = 2; last <= 14; last++) {
            int[] points = new int[last + 1];
            points[1] = 16;
            points[last] = 16;
            learns("points for " + last, Books.described(Books.byStates(points, 1, 1)), last <= 11 ? 8 : -2);
            int[] rare = new int[last + 1];
            Arrays.fill(rare, -1);
            rare[last] = 32 - last;
            learns("something lacks before " + last, Books.described(Books.byStates(rare, 1, 1)), last <= 11 ? 8 : -2);
        }
    }

    private static int[] points(int zeros, int order) {
        int[] points = new int[zeros + 2];
        points[zeros] = (1 << order) - 1;
        points[zeros + 1] = -1;
        return points;
    }

    private static final int[] GREATEST = {8, 9, 9};
    private static final int[] LAST = {31, 52, 35};

    private static void orders() {
        CHECKS.says(7, "It is WRONG if L is above the greatest order,");
        CHECKS.says(7, "Greatest orders 9, 8, 9, LAST 35, 31, 52.");
        for (int which = 0; which < 3; which++) {
            for (int order = 5; order <= 20; order++) {
                int want = order <= GREATEST[which] ? 8 : -3;
                learns("share " + which + " of order " + order, Books.shared(which, PlainPress.told(points(3, order))), want);
                learns("share " + which + " of order " + order + ", for one symbol", Books.shared(which, PlainPress.told(new int[] {1 << order})), want);
            }
        }
    }

    private static void lasts() {
        CHECKS.says(7, "a symbol above LAST would have points or be said to have none,");
        for (int which = 0; which < 3; which++) {
            int last = LAST[which];
            for (int symbol = last - 7; symbol <= last + 7; symbol++) {
                int want = symbol <= last ? 8 : -3;
                learns("share " + which + ", zeros up to " + symbol, Books.shared(which, PlainPress.told(points(symbol - 1, 5))), want);
                int[] alone = new int[symbol + 1];
                alone[symbol] = 32;
                learns("share " + which + ", all for " + symbol, Books.shared(which, PlainPress.told(alone)), want);
                // One that is not 0 stands before, so that the zeros are said in other numbers.
                for (int before = 1; before <= 3; before++) {
                    int[] more = new int[symbol + 1];
                    more[before] = 3;
                    more[symbol] = 29;
                    learns("share " + which + ", zeros from " + before + " up to " + symbol, Books.shared(which, PlainPress.told(more)), want);
                }
            }
        }
    }

    private static void lacking() {
        CHECKS.says(7, "something lacks when LAST has its points,");
        for (int which = 0; which < 3; which++) {
            int last = LAST[which];
            for (int order = 6; order <= 8; order++) {
                int[] points = new int[last + 2];
                Arrays.fill(points, -1);
                points[last] = (1 << order) - last;
                byte[] right = PlainPress.told(Arrays.copyOf(points, last + 1));
                learns("share " + which + ": nothing lacks", Books.shared(which, right), 8);
                points[last]--;
                points[last + 1] = 1;
                learns("share " + which + ": one lacks", Books.shared(which, PlainPress.told(points)), -3);
                points[last] = 0;
                points[last + 1] = (1 << order) - last;
                learns("share " + which + ": all lacks", Books.shared(which, PlainPress.told(points)), -3);
            }
        }
    }

    /** A share may end just with its last byte, and must not go on beyond it. */
    private static void shareEnds() {
        CHECKS.says(7, "or its bytes end within it.");
        int full = 0;
        for (int a = 1; a < 32; a++) {
            int[] points = {a, 31 - a, -1};
            points = a == 31 ? new int[] {31, -1} : points;
            byte[] share = PlainPress.told(points);
            byte[] head = join(Books.MARK, Books.ID, Books.CODES, share, share);
            for (int n = 0; n < share.length; n++) {
                learns("the last share's first " + n + " bytes", join(head, Arrays.copyOf(share, n)), -3);
            }
            learns("all of the last share", join(head, share), -1);
            full += PlainPress.toldBits(points).length() % 8 == 0 ? 1 : 0;
        }
        CHECKS.due("shares that end with the last bit of a byte", full > 0, true);
        zerosThatLack();
        CHECKS.says(7, "What is left of the last byte counts for nothing.");
        // 31, and 1 for the next: 4 + 6 + 2 bits, four of the second byte are left.
        byte[] share = PlainPress.told(new int[] {31, 1});
        CHECKS.due("two bytes", share.length, 2);
        for (int rest = 0; rest < 16; rest++) {
            byte[] other = share.clone();
            other[1] |= (byte) (rest << 4);
            for (int which = 0; which < 3; which++) {
                learns("share " + which + ", a rest of " + rest, Books.shared(which, other), 8);
            }
        }
    }

    /** Shares whose last byte is 0: without it they are not whole, though zeros would make them so. */
    private static void zerosThatLack() {
        int seen = 0;
        for (int seed = 0; seed < 20000 && seen <= 10; seed++) {
            Random random = new Random(seed);
            int[] points = new int[2 + random.nextInt(6)];
            int left = 32;
            for (int s = 0; s < points.length - 1; s++) {
                points[s] = random.nextInt(3) == 0 ? -1 : random.nextInt(Math.max(1, left - 3));
                left -= Math.abs(points[s]);
            }
            if (left < 1) {
                continue;
            }
            points[points.length - 1] = left == 1 ? -1 : left;
            byte[] share = PlainPress.told(points);
            if (share[share.length - 1] != 0) {
                continue;
            }
            seen++;
            byte[] cut = Arrays.copyOf(share, share.length - 1);
            byte[] head = join(Books.MARK, Books.ID, Books.CODES);
            learns("the first share without its last byte, 0", join(head, cut), -3);
            learns("the third share without its last byte, 0", join(head, Books.SHARE, Books.SHARE, cut), -3);
            learns("the third share with its last byte, 0", join(head, Books.SHARE, Books.SHARE, share), -1);
            // In a description its bytes end, but those of IN go on.
            learns("a share of weights without its last byte, 0",
                join(Books.MARK, Books.ID, PlainPress.number(cut.length, 1), share, Checks.bytes(255, 255), Books.SHARES, Books.LATEST, Books.CONTENT), -2);
        }
        CHECKS.due("shares whose last byte is 0: " + seen, seen > 10, true);
    }

    private static void distances() {
        CHECKS.says(7, "-4 one of the three distances is 0, or above the bytes of content");
        long[] numbers = {0, 1, 7, 8, 9, 10, 255, 256, 65536, 0x01000000L, 0x7FFFFFFFL, 0x80000000L, 0x80000001L, 0xFFFFFFFFL};
        for (int i = 0; i < 3; i++) {
            for (long distance : numbers) {
                long[] three = {1, 4, 8};
                three[i] = distance;
                byte[] row = join(Books.MARK, Books.ID, Books.CODES, Books.SHARES, Books.latest(three[0], three[1], three[2]), Books.CONTENT);
                learns("distance " + i + " of " + distance, row, distance >= 1 && distance <= 8 ? 8 : -4);
            }
        }
        byte[] head = join(Books.MARK, Books.ID, Books.CODES, Books.SHARES);
        for (int n = 0; n <= 3; n++) {
            for (int distance = 0; distance <= 4; distance++) {
                byte[] row = join(head, Books.latest(distance, distance, distance), new byte[n]);
                learns("distances of " + distance + ", content of " + n, row, distance >= 1 && distance <= n ? n : -4);
            }
        }
        int most = 8000 - head.length - 12;
        for (int distance = most - 1; distance <= most + 1; distance++) {
            byte[] row = join(head, Books.latest(1, distance, 1), new byte[most]);
            learns("a distance of " + distance + ", content of " + most, row, distance <= most ? most : -4);
        }
    }

    private static void firstThatComes() {
        CHECKS.says(7, "(the first that comes; an end within a description or share is their being WRONG)");
        byte[] badCodes = Checks.bytes(128, 0x00);
        byte[] badShare = PlainPress.told(points(3, 10));
        byte[] zeros = Books.latest(0, 0, 0);
        byte[] head = join(Books.MARK, Books.ID);
        learns("description, share and distances", join(head, badCodes, badShare, badShare, badShare, zeros), -2);
        learns("description, and an end", join(head, badCodes), -2);
        learns("share and distances", join(head, Books.CODES, Books.SHARE, Books.SHARE, badShare, zeros), -3);
        learns("the first share, and an end", join(head, Books.CODES, badShare), -3);
        learns("the second share, and an end", join(head, Books.CODES, Books.SHARE, badShare), -3);
        learns("distances", join(head, Books.CODES, Books.SHARES, zeros, Books.CONTENT), -4);
        learns("distances that end within the third", join(head, Books.CODES, Books.SHARES, Arrays.copyOf(Books.LATEST, 11)), -1);
        learns("distances without content", join(head, Books.CODES, Books.SHARES, zeros), -4);
    }

    private static void answers() {
        CHECKS.says(7, "-2 the DESCRIPTION is WRONG;");
        learns("a description that is right", direct(1, 1), 8);
        learns("a description that is wrong", direct(2, 2), -2);
        CHECKS.says(7, "-3 a share is;");
        for (int which = 0; which < 3; which++) {
            learns("share " + which + " is right", Books.shared(which, PlainPress.told(points(0, GREATEST[which]))), 8);
            learns("share " + which + " is wrong", Books.shared(which, PlainPress.told(points(0, GREATEST[which] + 1))), -3);
        }
    }

    /** A share with every number that its first symbol can have; a row with just these symbols shows that its places are right. */
    private static void numbersOfShares() {
        CHECKS.says(7, "R being what lacks, t the greatest power of two not above R + 1, m = 2 t - 2 - R:");
        CHECKS.says(7, "if it is not below m, it has one bit more, and is less by m if it is t or more then.");
        CHECKS.says(7, "then, as long as the masses together are below 2^L, for symbols from 0 on:");
        byte[] content = new Weaver(3).literals(600).row();
        byte[] distances = PlainPress.told(new int[] {-1, -1, -1, -1, 3, 3, 3, 3, 8, 8});
        int used = 0;
        for (int first = -1; first <= 64; first++) {
            int order = first <= 32 ? 5 : 6;
            int rest = (1 << order) - Math.abs(first);
            int[] points = rest == 0 ? new int[] {first} : new int[] {first, rest};
            byte[] share = PlainPress.told(points);
            byte[] row = PlainPress.join(Books.MARK, Books.ID, Books.CODES, distances, share, share, Books.LATEST, content);
            learns("the first has " + first + " points", row, 600);
            StatePress x = new StatePress();
            Checks.feed(x, row);
            x.learn();
            PlainPress plain = new PlainPress();
            plain.book = FrameReader.book(row);
            // Literal lengths 0 and 1, match lengths 3 and 4, as often as the points are.
            Weaver weaver = new Weaver(7).behind(content);
            for (int i = 0; i < 40; i++) {
                boolean zero = rest == 0 || first > 0 && (i * 37 & (1 << order) - 1) < first;
                weaver.sequenceFrom(zero ? 0 : 1, 40 + 13 * i, zero ? 3 : 4);
            }
            byte[] in = weaver.rowFrom(600);
            Checks.feed(x, in);
            x.press(0, 0, 1024);
            CHECKS.due("the frame by a share of " + first, Checks.out(x), plain.press(in, 0, 0, 1024));
            used += x.about(11) > 0 ? 1 : 0;
        }
        CHECKS.due("tables as they were, used by frames: " + used, used > 40, true);
    }

    /** All that was learned before stays when learn() is refused, and all of it goes when it is not. */
    private static void stays() {
        CHECKS.says(7, "Otherwise both stay:");
        StatePress x = new StatePress();
        Checks.feed(x, Books.described(Books.CODES));
        CHECKS.due("learn()", x.learn(), 8);
        byte[] row = Checks.text("0101content!");
        byte[][] bad = {Books.MARK, Books.described(Checks.bytes(128, 0)), Books.shared(2, PlainPress.told(points(3, 12))),
            join(Books.MARK, Books.ID, Books.CODES, Books.SHARES, Books.latest(1, 1, 9), Books.CONTENT)};
        for (int i = 0; i < 4; i++) {
            for (int twice = 0; twice < 2; twice++) {
                Checks.feed(x, bad[i]);
                CHECKS.due("learn() that is refused", x.learn(), -1 - i);
                CHECKS.due("once more, for IN stays", x.learn(), -1 - i);
            }
            Checks.feed(x, row);
            x.press(8, 0, 1024);
            PlainPress plain = new PlainPress();
            plain.book = FrameReader.book(Books.described(Books.CODES));
            CHECKS.due("the dictionary as it was, after " + (-1 - i), Checks.out(x), plain.press(row, 8, 0, 1024));
        }
    }

    /** Of several dictionaries, learned or refused by one and the same object, the last one that was taken counts alone. */
    private static void oneAfterAnother() {
        CHECKS.says(7, "frames begin with these CODES, TABLES and LATEST distances.");
        int[] many = new int[256];
        for (int s = 0; s < 256; s++) {
            many[s] = 1 + s % 7 * s % 5;
        }
        byte[] most = PlainPress.description(PlainPress.lengthsByCounts(many, 11));
        byte[][] books = {
            join(Books.MARK, Books.ID, most, share(31, 8), share(52, 9), share(35, 9), Books.latest(3, 2, 1), Books.CONTENT),
            direct(1, 1, 2), book(), Books.shared(1, share(52, 9)), direct(0, 0, 0, 1, 1), Checks.text("0123456789"),
            Books.described(most), Books.described(Books.CODES), direct(1), Books.shared(1, share(60, 9)), Books.MARK};
        StatePress x = new StatePress();
        PlainPress plain = new PlainPress();
        Random random = new Random(1);
        for (int i = 0; i < 120; i++) {
            byte[] book = books[random.nextInt(books.length)];
            Checks.feed(x, book);
            int answer = x.learn();
            try {
                plain.book = FrameReader.book(book);
                CHECKS.due("learn() of one after another", answer, plain.book.content.length);
            } catch (FrameReader.Wrong e) {
                CHECKS.due("learn() of one after another", answer, e.answer);
            }
            byte[] row = new byte[60];
            for (int k = 0; k < row.length; k++) {
                row[k] = (byte) random.nextInt(i % 3 == 0 ? 3 : i % 3 == 1 ? 6 : 256);
            }
            for (byte[] each : new byte[][] {row, join(row, Twins.ROW)}) {
                Checks.feed(x, each);
                x.press(8, 0, 1024);
                CHECKS.due("the frame after one and another", Checks.out(x), plain.press(each, 8, 0, 1024));
            }
        }
    }

    /** A share in which all symbols up to the last one have points. */
    private static byte[] share(int last, int order) {
        int[] points = new int[last + 1];
        Arrays.fill(points, 2);
        points[1] = -1;
        points[0] = (1 << order) - 2 * (last - 1) - 1;
        return PlainPress.told(points);
    }

    private static void ids() {
        CHECKS.says(7, "there follow the ID in four bytes,");
        long[] ids = {0, 1, 127, 128, 254, 255, 256, 257, 32768, 65534, 65535, 65536, 65537, 0xFFFFFFL, 0x1000000L,
            0x7FFFFFFFL, 0x80000000L, 0xFFFFFFFEL, 0xFFFFFFFFL};
        for (long id : ids) {
            StatePress x = new StatePress();
            Checks.feed(x, join(Books.MARK, PlainPress.number(id, 4), Books.CODES, Books.SHARES, Books.LATEST, Books.CONTENT));
            CHECKS.due("learn() with ID " + id, x.learn(), 8);
            int bytes = id == 0 ? 0 : id < 256 ? 1 : id < 65536 ? 2 : 4;
            CHECKS.due("press(8, 0, 1) with ID " + id, x.press(8, 0, 1), 9 + bytes);
            CHECKS.due("its head", x.byteAt(4), bytes == 4 ? 3 : bytes);
            for (int k = 0; k < bytes; k++) {
                CHECKS.due("byte " + k + " of ID " + id, x.byteAt(6 + k), id >> 8 * k & 255);
            }
            CHECKS.due("press(0, 0, 1) with ID " + id, x.press(0, 0, 1), 9);
            CHECKS.due("its head", x.byteAt(4), 0);
        }
    }

    private static void forget() {
        CHECKS.says(8, "There is no DICTIONARY.");
        Twins twins = new Twins();
        twins.feed(Twins.ROW);
        twins.x.forget();
        twins.alike(CHECKS, "forget() without a dictionary");
        twins.x.forget();
        twins.x.forget();
        twins.alike(CHECKS, "forget() twice");
        // What is left of a formed one would be seen by its content, ID, codes, tables or distances.
        byte[][] books = {new byte[0], Checks.text("abcdefghijklmnop"), Books.described(Books.CODES), book()};
        for (byte[] book : books) {
            StatePress x = new StatePress();
            StatePress y = new StatePress();
            x.rule(1, 5);
            y.rule(1, 5);
            Checks.feed(x, book);
            CHECKS.due("learn()", x.learn() >= 0, true);
            Checks.feed(x, Twins.ROW);
            Checks.feed(y, Twins.ROW);
            x.press(0, 0, 100);
            byte[] out = Checks.out(x);
            x.forget();
            CHECKS.due("OUT after forget()", Checks.out(x), out);
            for (int flags = 0; flags < 16; flags++) {
                CHECKS.due("press after forget()", x.press(flags, 0, 50), y.press(flags, 0, 50));
                CHECKS.due("its frame", Checks.out(x), Checks.out(y));
            }
            Checks.feed(x, book);
            CHECKS.due("learn() once more", x.learn() >= 0, true);
        }
    }

    /** A dictionary may go by forget(), by another one, or by another one and forget(). */
    private static void goes(StatePress x, int way) {
        if (way > 0) {
            Checks.feed(x, Checks.text("~"));
            CHECKS.due("learn() of another one", x.learn(), 1);
        }
        if (way != 1) {
            x.forget();
        }
    }

    private static void forgetLatest() {
        CHECKS.says(8, "There is no DICTIONARY.");
        CHECKS.says(8, "There are three LATEST distances (1, 4, 8 at first in a frame):");
        byte[] content = new Weaver(5).literals(50).row();
        byte[] book = join(Books.MARK, Books.ID, Books.CODES, Books.SHARES, Books.latest(20, 30, 40), content);
        int[][] told = {{1, 1}, {4, 2}, {8, 3}, {20, 23}, {30, 33}, {40, 43}};
        for (int way = 0; way < 3; way++) {
            for (int[] one : told) {
                byte[] row = new Weaver(6).sequence(45, one[0], 40).row();
                StatePress x = new StatePress();
                for (int times = 0; times < 3; times++) {
                    Checks.feed(x, book);
                    CHECKS.due("learn()", x.learn(), 50);
                    goes(x, way);
                    Checks.feed(x, row);
                    x.press(0, 0, 1024);
                    PlainPress.Book left = way == 1 ? FrameReader.book(Checks.text("~")) : new PlainPress.Book();
                    CHECKS.due("distance " + one[0] + " is told", FrameReader.tellings(Checks.out(x), left).get(0), one[1]);
                }
            }
        }
    }

    /** Tables of which each tells its one symbol for nothing, but for the first state: they are the best, as long as they are there. */
    private static void forgetTables() {
        CHECKS.says(8, "There is no DICTIONARY.");
        CHECKS.says(8, "At the beginning of a frame there are else no CODES and no TABLES.");
        byte[] content = new Weaver(5).literals(400).row();
        int[][] alone = {new int[5], new int[7], new int[4]};
        for (int[] points : alone) {
            points[points.length - 1] = 32;
        }
        byte[] book = join(Books.MARK, Books.ID, Books.CODES, PlainPress.told(alone[1]), PlainPress.told(alone[2]), PlainPress.told(alone[0]),
            Books.LATEST, content);
        Weaver weaver = new Weaver(6).literals(100);
        for (int i = 0; i < 3; i++) {
            weaver.sequence(4, 100 + 7 * i, 6);
        }
        byte[] row = weaver.rowFrom(100);
        for (int way = 0; way < 3; way++) {
            StatePress x = new StatePress();
            for (int times = 0; times < 3; times++) {
                byte[] before = Arrays.copyOf(weaver.row(), 100);
                Checks.feed(x, join(Arrays.copyOf(book, book.length - 400), before));
                CHECKS.due("learn()", x.learn(), 100);
                Checks.feed(x, row);
                x.press(0, 0, 1024);
                CHECKS.due("tables as they were, with it", x.about(11), 3);
                goes(x, way);
                // The first row of 100 is of kind 0, the second one has the same symbols as before.
                Checks.feed(x, weaver.row());
                x.press(0, 0, 100);
                CHECKS.due("sequences without it", x.about(3), 3);
                CHECKS.due("tables as they were, without it", x.about(11), 0);
            }
        }
    }

    /** One with codes and tables as the row would make them, and distances that it has. */
    private static byte[] book() {
        StatePress x = new StatePress();
        Checks.feed(x, Twins.ROW);
        CHECKS.due("make()", x.make(0x10203040) > 0, true);
        byte[] row = Checks.out(x);
        System.arraycopy(Books.latest(10, 19, 30), 0, row, row.length - Twins.ROW.length - 12, 12);
        return row;
    }
}
