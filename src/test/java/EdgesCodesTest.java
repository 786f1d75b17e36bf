import java.util.Arrays;
import java.util.HashSet;
import java.util.Random;
import java.util.Set;

/** The boundary cases of promises 9 and 10 in CODES: lengths by counts, and their descriptions. */
public final class EdgesCodesTest {
    private static final Checks CHECKS = new Checks();

    public static void main(String[] args) {
        equalCounts();
        mostLengths();
        cells();
        fewSymbols();
        oddAndEven();
        direct();
        notDescribed();
        allOfThem();
        directOrStates();
        greatestWeight();
        fiveOrSix();
        CHECKS.end();
    }

    /** Literals with these counts for the symbols from 0 on, no eight of them twice, and a copy of the first ones: a row for make(). */
    private static byte[] rowOf(int... counts) {
        for (int seed = 0; seed < 2000; seed++) {
            byte[] row = shuffled(counts, new Random(seed));
            if (row == null) {
                continue;
            }
            byte[] all = PlainPress.join(row, Arrays.copyOf(row, 9));
            PlainPress plain = new PlainPress();
            plain.least = 8;
            PlainPress.Found found = plain.go(all, 0, 8000, new int[] {1, 4, 8});
            if (found.sequences.size() == 1 && found.literals.length == row.length) {
                return all;
            }
        }
        throw new IllegalStateException("no row for " + Arrays.toString(counts));
    }

    private static byte[] shuffled(int[] counts, Random random) {
        int[] left = counts.clone();
        int n = Arrays.stream(counts).sum();
        byte[] row = new byte[Math.max(n, 9)];
        Set<Long> had = new HashSet<>();
        long eight = 0;
        int at = 0;
        for (int tries = 0; at < n && tries < 40 * n + 1000; tries++) {
            int pick = random.nextInt(n - at);
            int s = 0;
            while (pick >= left[s]) {
                pick -= left[s++];
            }
            long next = eight << 8 | s;
            if (at >= 7 && had.contains(next)) {
                continue;
            }
            had.add(next);
            eight = next;
            row[at++] = (byte) s;
            left[s]--;
        }
        return at == n && n >= 9 ? row : null;
    }

    /** The dictionary that make() makes of the row by LEAST 8. */
    private static byte[] made(String name, byte[] row) {
        StatePress x = new StatePress();
        x.rule(2, 8);
        Checks.feed(x, row);
        PlainPress plain = new PlainPress();
        plain.least = 8;
        byte[] want = plain.make(row, 0);
        CHECKS.due(name + ": make", x.make(0), want == null ? -1 : want.length);
        CHECKS.due(name + ": made", Checks.out(x), want == null ? new byte[0] : want);
        return want;
    }

    private static void lengths(String name, int[] counts, int... want) {
        byte[] book = made(name, rowOf(counts));
        int[] lengths = FrameReader.book(book).lengths;
        CHECKS.due(name + " " + Arrays.toString(Arrays.copyOf(lengths, want.length)),
            Arrays.equals(Arrays.copyOf(want, 256), lengths), true);
    }

    private static void equalCounts() {
        CHECKS.says(9, "the symbols with counts above 0 are KNOTS with these counts, in rising order of symbols.");
        CHECKS.says(9, "Again and again the two KNOTS of the least counts (of equal ones those that come first in the order) go,"
            + " and one with the sum of both counts comes, last in the order, until one is left.");
        lengths("two", new int[] {5, 5}, 1, 1);
        lengths("two, one rare", new int[] {4, 9}, 1, 1);
        lengths("three as often", new int[] {4, 4, 4}, 2, 2, 1);
        lengths("four as often", new int[] {4, 4, 4, 4}, 2, 2, 2, 2);
        lengths("five as often", new int[] {4, 4, 4, 4, 4}, 3, 3, 2, 2, 2);
        lengths("seven as often", new int[] {3, 3, 3, 3, 3, 3, 3}, 3, 3, 3, 3, 3, 3, 2);
        lengths("the first twice as often", new int[] {8, 4, 4}, 1, 2, 2);
        // The sum of the first two comes behind the others that are as much.
        lengths("a sum as much as those behind", new int[] {3, 3, 6, 6}, 2, 2, 2, 2);
        lengths("a sum as much as those before", new int[] {6, 6, 3, 3}, 2, 2, 2, 2);
        lengths("a sum less than those behind", new int[] {3, 3, 7, 7}, 3, 3, 2, 1);
        lengths("counts of 0 between", new int[] {0, 4, 0, 0, 4, 4, 0}, 0, 2, 0, 0, 2, 1);
        lengths("one more", new int[] {4, 4, 5}, 2, 2, 1);
        lengths("one less", new int[] {4, 4, 3}, 2, 1, 2);
    }

    /** Counts like Fibonacci's: twelve symbols have a greatest length of 11, thirteen would have one of 12. */
    private static void mostLengths() {
        CHECKS.says(9, "T is the greatest, at most 11.");
        CHECKS.says(9, "When a LENGTH is above MOST, each count above 0 becomes half of it, rounded up, and all begins anew.");
        lengths("a greatest length of 10", new int[] {1, 1, 2, 3, 5, 8, 13, 21, 34, 55, 89}, 10, 10, 9, 8, 7, 6, 5, 4, 3, 2, 1);
        lengths("a greatest length of 11", new int[] {1, 1, 2, 3, 5, 8, 13, 21, 34, 55, 89, 144}, 11, 11, 10, 9, 8, 7, 6, 5, 4, 3, 2, 1);
        // Halved: 1, 1, 1, 2, 3, 4, 7, 11, 17, 28, 45, 72, 117.
        lengths("one of 12, halved", new int[] {1, 1, 2, 3, 5, 8, 13, 21, 34, 55, 89, 144, 233}, 7, 7, 6, 6, 6, 5, 5, 4, 4, 3, 3, 2, 2);
        int[] counts = {1, 1, 2, 3, 5, 8, 13, 21, 34, 55, 89, 144, 233};
        int[] backwards = new int[13];
        for (int s = 0; s < 13; s++) {
            backwards[s] = counts[12 - s];
        }
        CHECKS.due("without MOST", PlainPress.top(PlainPress.lengthsByCounts(counts, 99)), 12);
        CHECKS.due("without MOST, backwards", PlainPress.top(PlainPress.lengthsByCounts(backwards, 99)), 12);
        made("one of 12, backwards", rowOf(backwards));
        made("one of 13", rowOf(1, 1, 2, 3, 5, 8, 13, 21, 34, 55, 89, 144, 233, 377));
    }

    /** The codes of a dictionary are known, and so are the bits of the literals that it tells. */
    private static void cells() {
        CHECKS.says(9, "all symbols with codes in rising order of their WEIGHTS, those of the same in rising order,"
            + " take 2^(WEIGHT - 1) cells each, one behind the other.");
        // Weights 1, 1, 2: the cells are 0, 1, 2, 2, and the codes 00, 01, 1, here with their lowest bits first.
        coded(Checks.bytes(129, 0x11), "00", "10", "1");
        // Weights 2, 1, 1: the cells are 1, 2, 0, 0.
        coded(Checks.bytes(129, 0x21), "1", "00", "10");
        // Weights 1, 3, 1, 2: the cells are 0, 2, 3, 3, 1, 1, 1, 1.
        coded(Checks.bytes(130, 0x13, 0x10), "000", "1", "100", "10");
        // Weights 3, 0, 2, 1, 1: the cells are 3, 4, 2, 2, 0, 0, 0, 0.
        coded(Checks.bytes(131, 0x30, 0x21), "1", null, "10", "000", "100");
        // Weights 1, 1, 1, 1 all have two bits.
        coded(Checks.bytes(130, 0x11, 0x10), "00", "10", "01", "11");
    }

    private static void coded(byte[] description, String... codes) {
        byte[] tail = Checks.text("~".repeat(40));
        byte[] book = PlainPress.join(Books.MARK, Books.ID, description, Books.SHARES, Books.LATEST, tail);
        byte[] row = symbols(codes);
        StatePress x = new StatePress();
        Checks.feed(x, book);
        CHECKS.due("learn()", x.learn(), 40);
        x.rule(2, 8);
        Checks.feed(x, PlainPress.join(row, tail));
        x.press(0, 0, 1024);
        CHECKS.due("k 3", x.about(7), 1);
        StringBuilder bits = new StringBuilder();
        for (int i = row.length - 1; i >= 0; i--) {
            bits.append(codes[row[i]]);
        }
        byte[] want = PlainPress.bytes(bits.append('1').toString());
        CHECKS.due("the stream", Arrays.copyOfRange(Checks.out(x), 12, 12 + want.length), want);
        CHECKS.due("the bytes told", (x.byteAt(10) >> 6 | x.byteAt(11) << 2), want.length);
    }

    /** Thirty symbols that have codes, no eight of them twice. */
    private static byte[] symbols(String... codes) {
        int[] counts = new int[codes.length];
        for (int s = 0; s < counts.length; s++) {
            counts[s] = codes[s] == null ? 0 : 30 / counts.length;
        }
        return shuffled(counts, new Random(1));
    }

    private static byte[] description(byte[] book) {
        int bytes = (book[8] & 255) > 127 ? ((book[8] & 255) - 126) / 2 : book[8];
        return Arrays.copyOfRange(book, 8, 9 + bytes);
    }

    private static void fewSymbols() {
        CHECKS.says(10, "THE DESCRIPTION of codes: the WEIGHTS of the symbols 0 .. k - 1, in which k is the highest symbol that has a code.");
        CHECKS.due("0 and 1", description(made("0 and 1", rowOf(5, 5))), Checks.bytes(128, 0x10));
        CHECKS.due("0 and 2", description(made("0 and 2", rowOf(5, 0, 5))), Checks.bytes(129, 0x10));
        CHECKS.due("1 and 2", description(made("1 and 2", rowOf(0, 5, 5))), Checks.bytes(129, 0x01));
        CHECKS.due("0, 1 and 2", description(made("0, 1 and 2", rowOf(5, 5, 5))), Checks.bytes(129, 0x11));
        CHECKS.due("2, 3 and 4", description(made("2, 3 and 4", rowOf(0, 0, 5, 5, 5))), Checks.bytes(131, 0x00, 0x11));
    }

    private static void oddAndEven() {
        CHECKS.says(10, "and two weights a byte, the upper four bits first, the last four 0 when k is odd.");
        CHECKS.due("k of 3", description(made("k of 3", rowOf(4, 4, 4, 4))), Checks.bytes(130, 0x11, 0x10));
        CHECKS.due("k of 4", description(made("k of 4", rowOf(4, 4, 4, 4, 4))), Checks.bytes(131, 0x11, 0x22));
        CHECKS.due("weights up to 11", description(made("weights up to 11", rowOf(144, 89, 55, 34, 21, 13, 8, 5, 3, 2, 1, 1))),
            Checks.bytes(127 + 11, 0xBA, 0x98, 0x76, 0x54, 0x32, 0x10));
    }

    /** The first n symbols once each, the next one so many times. */
    private static int[] onesAnd(int n, int times) {
        int[] counts = new int[n + 1];
        Arrays.fill(counts, 0, n, 1);
        counts[n] = times;
        return counts;
    }

    private static void direct() {
        CHECKS.says(10, "DIRECT (k at most 128): the byte 127 + k,");
        // 128 weights of 1 can be told direct alone, as they are all the same.
        CHECKS.says(10, "in that way that there is, if there is but one.");
        byte[] want = new byte[65];
        Arrays.fill(want, (byte) 0x11);
        want[0] = -1;
        CHECKS.due("128 weights of 1", description(made("128 weights of 1", rowOf(onesAnd(128, 128)))), want);
        byte[] one = Arrays.copyOf(want, 65);
        one[0] = -2;
        one[64] = 0x10;
        CHECKS.due("127 weights of 1", description(made("127 weights of 1", rowOf(onesAnd(127, 1)))), one);
        // 129 weights, of which one is not as the others, can be told by states alone.
        int[] counts = onesAnd(129, 127);
        byte[] states = description(made("129 weights", rowOf(counts)));
        CHECKS.due("129 weights are told by states", states[0] > 0, true);
        for (int k = 126; k <= 131; k++) {
            int[] rare = new int[k + 1];
            rare[0] = 9;
            rare[k] = 9;
            byte[] told = description(made("0 and " + k, rowOf(rare)));
            CHECKS.due("0 and " + k + " by states", told[0] > 0, true);
        }
    }

    private static void notDescribed() {
        CHECKS.says(10, "BY STATES (k at least 2, with at least two weights that are not the same, fewer than 128 bytes):");
        CHECKS.due("192 weights of 1", made("192 weights of 1", rowOf(onesAnd(192, 64))) == null, true);
        int[] other = onesAnd(192, 64);
        other[0] = 2;
        CHECKS.due("192 of 1, by other counts", made("192 of 1, by other counts", rowOf(other)) == null, true);
        other[0] = 4;
        CHECKS.due("191 of 1, one of more", made("191 of 1, one of more", rowOf(other)) != null, true);
        int[] all = new int[256];
        Arrays.fill(all, 1);
        CHECKS.due("256 symbols once each", made("256 symbols once each", rowOf(all)) == null, true);
        Arrays.fill(all, 2);
        CHECKS.due("256 symbols twice each", made("256 symbols twice each", rowOf(all)) == null, true);
        all[255] = 0;
        CHECKS.due("254 of 1, and the last of 2", made("254 of 1, and the last of 2", rowOf(all)) == null, true);
        all[254] = 0;
        CHECKS.due("252 of 1, and two of 2", made("252 of 1, and two of 2", rowOf(all)) != null, true);
        Arrays.fill(all, 2);
        all[0] = 0;
        CHECKS.due("all but 0 twice each", made("all but 0 twice each", rowOf(all)) != null, true);
        all[0] = 5;
        CHECKS.due("0 five times, the others twice", made("0 five times, the others twice", rowOf(all)) != null, true);
    }

    /** In a frame codes that can't be described are no way to tell literals; they stand for themselves. */
    private static void allOfThem() {
        CHECKS.says(9, "new ones (k 2), when at least two literals are not the same, LENGTHS BY COUNTS with MOST 11, if these can be described.");
        byte[] row = PlainPress.join(rowOf(onesAnd(192, 64)), new byte[100]);
        int[] counts = onesAnd(192, 64);
        counts[0] = 4;
        byte[] other = PlainPress.join(rowOf(counts), new byte[100]);
        for (byte[] each : new byte[][] {row, other}) {
            StatePress x = new StatePress();
            x.rule(2, 8);
            Checks.feed(x, each);
            PlainPress plain = new PlainPress();
            plain.least = 8;
            byte[] want = plain.press(each, 0, 0, 1024);
            CHECKS.due("press", x.press(0, 0, 1024), want.length);
            CHECKS.due("the frame", Checks.out(x), want);
            CHECKS.due("new codes are there", plain.trials.get(0).literals[2] >= 0, each == other);
        }
    }

    private static void directOrStates() {
        CHECKS.says(10, "It is written DIRECT when that is not longer than BY STATES;");
        int[] seen = new int[3];
        for (int seed = 0; seed < 4000 && (seen[0] < 12 || seen[1] < 12 || seen[2] < 12); seed++) {
            int[] counts = someCounts(new Random(seed), 60);
            int[] lengths = PlainPress.lengthsByCounts(Arrays.copyOf(counts, 256), 11);
            int k = counts.length - 1;
            int[] weights = weights(lengths, k);
            if (k < 2 || Arrays.stream(weights).distinct().count() < 2) {
                continue;
            }
            int states = Math.min(PlainPress.twoStates(weights, 5).length, PlainPress.twoStates(weights, 6).length);
            int more = (k + 1) / 2 - states;
            if (more < -1 || more > 1 || seen[more + 1] >= 12) {
                continue;
            }
            seen[more + 1]++;
            byte[] told = description(made("direct has " + more + " more", rowOf(counts)));
            CHECKS.due("direct has " + more + " more: direct", told[0] < 0, more <= 0);
        }
        for (int i = 0; i < 3; i++) {
            CHECKS.due("direct has " + (i - 1) + " more, seen", seen[i] >= 12, true);
        }
    }

    private static int[] someCounts(Random random, int most) {
        int[] counts = new int[12 + random.nextInt(most)];
        int rare = 1 + random.nextInt(4);
        for (int s = 0; s < counts.length; s++) {
            counts[s] = random.nextInt(4) < rare ? 1 + random.nextInt(3) * random.nextInt(6) : 0;
        }
        counts[counts.length - 1] = 9;
        counts[3] = 9;
        return counts;
    }

    private static int[] weights(int[] lengths, int k) {
        int[] weights = new int[k];
        for (int s = 0; s < k; s++) {
            weights[s] = PlainPress.weight(lengths, s);
        }
        return weights;
    }

    /** The greatest weight there is, of the most frequent symbol, which is not the last one, among many of 0. */
    private static void greatestWeight() {
        CHECKS.says(10, "A symbol's WEIGHT is T + 1 - LENGTH, 0 without a code.");
        int[] often = {1, 1, 2, 3, 5, 8, 13, 21, 34, 55, 89, 144};
        for (int symbols = 10; symbols <= 12; symbols++) {
            int[] counts = new int[9 * symbols];
            for (int i = 0; i < symbols; i++) {
                counts[9 * (symbols - 1 - i)] = often[i];
            }
            byte[] told = description(made("a weight of " + (symbols - 1), rowOf(counts)));
            CHECKS.due("a weight of " + (symbols - 1) + " by states", told[0] > 0, true);
            int[] lengths = FrameReader.book(made("once more", rowOf(counts))).lengths;
            CHECKS.due("the length of the most frequent one", lengths[0], 1);
            CHECKS.due("the greatest length", PlainPress.top(lengths), symbols - 1);
        }
        // So many weights, just below and above 32, 64 and 128 of them: one of each from 1 on has a point, or -1.
        for (int k = 24; k <= 140; k++) {
            int[] counts = new int[k + 1];
            for (int i = 0; i < 12; i++) {
                counts[k * i / 11] = often[11 - i];
            }
            made(k + " weights up to 11", rowOf(counts));
        }
    }

    private static void fiveOrSix() {
        CHECKS.says(10, "of the ORDERS 5 and 6 the one with fewer bytes, 5 when both have as many.");
        int[] seen = new int[3];
        for (int seed = 0; seed < 4000 && (seen[0] < 12 || seen[1] < 12 || seen[2] < 12); seed++) {
            int[] counts = someCounts(new Random(seed), 240);
            int[] lengths = PlainPress.lengthsByCounts(Arrays.copyOf(counts, 256), 11);
            int k = counts.length - 1;
            int[] weights = weights(lengths, k);
            int five = PlainPress.twoStates(weights, 5).length;
            int six = PlainPress.twoStates(weights, 6).length;
            int more = six - five;
            if (Math.min(five, six) >= (k + 1) / 2 && k <= 128 || more < -1 || more > 1 || seen[more + 1] >= 12) {
                continue;
            }
            seen[more + 1]++;
            byte[] told = description(made("six has " + more + " more", rowOf(counts)));
            CHECKS.due("six has " + more + " more: the bytes", told[0], Math.min(five, six));
            CHECKS.due("six has " + more + " more: the order", 5 + (told[1] & 15), more < 0 ? 6 : 5);
        }
        for (int i = 0; i < 3; i++) {
            CHECKS.due("six has " + (i - 1) + " more, seen", seen[i] >= 12, true);
        }
    }
}
