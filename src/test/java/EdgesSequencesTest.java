import java.util.ArrayList;
import java.util.Arrays;
import java.util.List;
import java.util.Random;

/** The boundary cases of promise 9 in SEQUENCES: their number, their lengths and distances, and the modes of their tables. */
public final class EdgesSequencesTest {
    private static final Checks CHECKS = new Checks();
    private static final PlainPress.Book NONE = new PlainPress.Book();

    public static void main(String[] args) {
        numbers();
        mostSequences();
        literalLengths();
        matchLengths();
        distances();
        farDistances();
        tooFar();
        latest();
        latestOfABook();
        latestOverRows();
        oneSymbolAlone();
        tableAsItWas();
        modes();
        keptByKindTwo();
        CHECKS.end();
    }

    private static StatePress with(byte[] content) {
        StatePress x = new StatePress();
        Checks.feed(x, content);
        x.learn();
        return x;
    }

    /** The frame must be just that of PlainPress, and have these sequences. */
    private static byte[] copies(String name, StatePress x, PlainPress plain, byte[] row, int cut, Integer... want) {
        x.rule(plain.way, plain.least);
        Checks.feed(x, row);
        byte[] due = plain.press(row, 0, 4, cut);
        CHECKS.due(name + ": press", x.press(0, 4, cut), due.length);
        byte[] out = Checks.out(x);
        CHECKS.due(name + ": the frame", out, due);
        CHECKS.due(name + ": the content", FrameReader.content(out, plain.book), row);
        List<Integer> copies = FrameReader.copies(out, plain.book);
        CHECKS.due(name + ": " + (copies.size() < 40 ? copies : "many"), copies.equals(List.of(want)), true);
        return out;
    }

    private static void numbers() {
        CHECKS.says(9, "a byte x, if it is below 128;");
        CHECKS.says(9, "The number of sequences takes as few bytes as can be.");
        byte[] content = new Weaver(3).literals(8000).row();
        PlainPress plain = new PlainPress();
        plain.book = FrameReader.book(content);
        plain.least = 5;
        for (int n : new int[] {1, 2, 126, 127, 128, 129, 254, 255, 256, 257, 512, 900}) {
            // Each of the parts is of five bytes, and from farther and farther on.
            Weaver weaver = new Weaver(n).behind(content);
            Integer[] want = new Integer[3 * n];
            for (int i = 0; i < n; i++) {
                want[3 * i] = 1;
                want[3 * i + 1] = weaver.sequenceFrom(1, i == 0 ? 7900 : 8 * i + 1, i == 0 ? 60 : 5);
                want[3 * i + 2] = i == 0 ? 60 : 5;
            }
            byte[] row = weaver.rowFrom(8000);
            byte[] out = copies(n + " sequences", with(content), plain, row, 8000, want);
            FrameReader.Block block = FrameReader.blocks(out, plain.book).get(0);
            CHECKS.due(n + " sequences, their number", block.sequences, n);
            if (block.literalKind == 0) {
                int at = 9 + (n < 32 ? 1 : 2) + n;
                CHECKS.due(n + " sequences, the first byte", out[at] & 255, n < 128 ? n : 128 + n / 256);
                CHECKS.due(n + " sequences, the second byte", n < 128 ? 0 : out[at + 1] & 255, n < 128 ? 0 : n % 256);
            }
        }
        CHECKS.says(9, "If it is 0, nothing follows.");
        byte[] row = new byte[80];
        for (int i = 0; i < row.length; i++) {
            row[i] = (byte) (i * i % 7 % 3 * (i % 5 % 3));
        }
        plain = new PlainPress();
        plain.least = 8;
        for (int n = 30; n < 80; n++) {
            byte[] some = Arrays.copyOf(row, n);
            Found found = new Found(some, plain);
            if (found.sequences == 0 && found.packed) {
                byte[] out = copies("no sequences", new StatePress(), plain, some, 1024);
                CHECKS.due("no sequences, the last byte", out[out.length - 1], 0);
                CHECKS.due("no sequences, their number", FrameReader.blocks(out, NONE).get(0).sequences, 0);
            }
        }
    }

    /** All of IN in copies of three bytes, the most sequences that there can be. */
    private static void mostSequences() {
        CHECKS.says(9, "256 * (x - 128) + the next byte, if x is below 255;");
        byte[] content = new Weaver(3).literals(8000).row();
        PlainPress plain = new PlainPress();
        plain.book = FrameReader.book(content);
        for (int n : new int[] {2665, 2666}) {
            byte[] row = threes(content, n);
            StatePress x = with(content);
            Checks.feed(x, row);
            byte[] want = plain.press(row, 0, 4, 8000);
            CHECKS.due(n + " sequences: press", x.press(0, 4, 8000), want.length);
            CHECKS.due(n + " sequences: the frame", Checks.out(x), want);
            CHECKS.due(n + " sequences: their number", x.about(3), n);
            CHECKS.due(n + " sequences: no literals", FrameReader.blocks(want, plain.book).get(0).literals, 0);
            CHECKS.due(n + " sequences: the first byte", x.byteAt(10), 128 + n / 256);
            CHECKS.due(n + " sequences: the second byte", x.byteAt(11), n % 256);
        }
    }

    /** So many times three bytes of the content, none of which go on as they do there. */
    private static byte[] threes(byte[] content, int n) {
        boolean[] had = new boolean[content.length];
        java.util.Set<Integer> across = new java.util.HashSet<>();
        for (int i = 2; i < content.length; i++) {
            across.add(three(content, i - 2));
        }
        byte[] row = new byte[3 * n];
        Random random = new Random(n);
        for (int i = 0; i < n; i++) {
            int place;
            do {
                place = random.nextInt(content.length - 3);
                System.arraycopy(content, place, row, 3 * i, 3);
                // What stands across two of them stands nowhere else.
            } while (had[place] || i > 0 && (across.contains(three(row, 3 * i - 2)) || across.contains(three(row, 3 * i - 1))));
            had[place] = true;
            if (i > 0) {
                across.add(three(row, 3 * i - 2));
                across.add(three(row, 3 * i - 1));
            }
        }
        return row;
    }

    private static int three(byte[] row, int at) {
        return (row[at] & 255) << 16 | (row[at + 1] & 255) << 8 | row[at + 2] & 255;
    }

    /** How many sequences a row of its own has, and whether it is packed. */
    private static final class Found {
        final int sequences;
        final boolean packed;

        Found(byte[] row, PlainPress plain) {
            plain.press(row, 0, 0, 1024);
            packed = plain.abouts[2] == 1;
            sequences = plain.go(row, 0, 1024, new int[] {1, 4, 8}).sequences.size();
        }
    }

    private static void literalLengths() {
        CHECKS.says(9, "A literal length is its symbol up to 15; for 16 .. 35: 16, 18, 20, 22, 24, 28, 32, 40, 48, 64, then 128, and each next one"
            + " twice as much, and 1, 1, 1, 1, 2, 2, 3, 3, 4, 6, 7, .. 16 additional bits.");
        int[] bases = {1, 2, 15, 16, 18, 20, 22, 24, 28, 32, 40, 48, 64, 128, 256, 512, 1024, 2048, 4096, 7900};
        for (int base : bases) {
            for (int n = base - 1; n <= base + 1; n++) {
                PlainPress plain = new PlainPress();
                byte[] content = new Weaver(3).literals(100).row();
                plain.book = FrameReader.book(content);
                plain.least = 8;
                // The literals are of no more than they must be, so that the row is packed for sure.
                Weaver weaver = new Weaver(n).behind(content).sequence(n, 60 + n, 40).literals(2);
                copies(n + " literals", with(content), plain, weaver.rowFrom(100), 8000, n, 60 + n, 40);
            }
        }
    }

    private static void matchLengths() {
        CHECKS.says(9, "A match length is its symbol + 3 up to 31; for 32 .. 52: 35, 37, 39, 41, 43, 47, 51, 59, 67, 83, 99, then 131, 259, .. 65539 (2^k + 3)"
            + " and 1, 1, 1, 1, 2, 2, 3, 3, 4, 4, 5, 7, 8, .. 16 additional bits.");
        int[] bases = {4, 5, 34, 35, 37, 39, 41, 43, 47, 51, 59, 67, 83, 99, 131, 259, 515, 1027, 2051, 4099, 7990};
        for (int base : bases) {
            for (int n = base - 1; n <= base + 1; n++) {
                Weaver weaver = new Weaver(n).sequence(4, 3, n).literals(1);
                byte[] row = weaver.row();
                PlainPress plain = new PlainPress();
                // A run behind it makes it sure that it is packed.
                byte[] all = n < 40 ? PlainPress.join(row, new byte[60]) : row;
                Integer[] want = n < 40 ? new Integer[] {4, 3, n, 2, 1, 59} : new Integer[] {4, 3, n};
                copies("a match of " + n, new StatePress(), plain, all, 8000, want);
            }
        }
    }

    /** A distance with its telling: alone, behind ten literals at least. */
    private static void tells(String name, int distance, int telling) {
        int before = Math.max(distance, 10);
        byte[] row = new Weaver(distance).sequence(before, distance, 40).row();
        PlainPress plain = new PlainPress();
        byte[] out = copies(name, new StatePress(), plain, row, 8000, before, distance, 40);
        CHECKS.due(name + ": told", FrameReader.tellings(out, NONE).get(0), telling);
    }

    private static void distances() {
        CHECKS.says(9, "There are three LATEST distances (1, 4, 8 at first in a frame):");
        CHECKS.says(9, "A distance's symbol s has s additional bits, v = 2^s + these.");
        int[] latest = {1, 4, 8};
        for (int distance = 1; distance <= 20; distance++) {
            int at = Arrays.binarySearch(latest, distance);
            tells("distance " + distance, distance, at >= 0 ? at + 1 : distance + 3);
        }
        for (int s = 4; s <= 12; s++) {
            for (int v = (1 << s) - 1; v <= (1 << s) + 1; v++) {
                tells("distance " + (v - 3), v - 3, v);
            }
        }
    }

    private static void farDistances() {
        CHECKS.says(9, "if v is above 3, the distance is v - 3, and becomes the first, the others going one behind.");
        byte[] content = new Weaver(5).literals(8000).row();
        PlainPress plain = new PlainPress();
        plain.book = FrameReader.book(content);
        plain.least = 8;
        int[] places = {4096 - 3, 8192 - 3, 12000, 15900};
        for (int place : places) {
            for (int d = place - 1; d <= place + 1; d++) {
                int before = Math.max(d - 8000, 10);
                byte[] row = new Weaver(d).behind(content).sequence(before, d, 60).rowFrom(8000);
                byte[] out = copies("distance " + d, with(content), plain, row, 8000, before, d, 60);
                CHECKS.due("distance " + d + ", told", FrameReader.tellings(out, plain.book).get(0), d + 3);
            }
        }
        // The farthest that there is: the first byte of the dictionary, the last ones of IN.
        int d = 15992;
        byte[] row = Arrays.copyOf(new Weaver(1).behind(content).literals(7992).rowFrom(8000), 8000);
        System.arraycopy(content, 0, row, 7992, 8);
        byte[] all = PlainPress.join(Arrays.copyOfRange(content, 500, 700), Arrays.copyOfRange(row, 200, 8000));
        copies("distance " + d, with(content), plain, all, 8000, 0, 7500, 200, 7792, d, 8);
    }

    /** Behind so many bytes of content the last bytes of the dictionary, or some before them, come once more. */
    private static void tooFar() {
        CHECKS.says(9, "A distance is TOO FAR if it is 0;");
        CHECKS.says(9, "or more than the bytes of content so far (the LITERALS before included) and of DICTIONARY's content together;");
        byte[] content = new Weaver(6).literals(100).row();
        PlainPress plain = new PlainPress();
        plain.book = FrameReader.book(content);
        for (int literals : new int[] {0, 1, 5}) {
            // The very first byte of the dictionary is just as far as there are bytes.
            byte[] row = new Weaver(literals + 1).behind(content).sequence(literals, 100 + literals, 40).rowFrom(100);
            copies("the first byte of the dictionary", with(content), plain, row, 1024, literals, 100 + literals, 40);
            byte[] none = new Weaver(literals + 1).sequence(40 + literals, 40 + literals, 40).row();
            copies("the first byte of the content", new StatePress(), new PlainPress(), none, 1024, 40 + literals, 40 + literals, 40);
        }
        CHECKS.says(9, "or above the WINDOW, and not above the bytes of content so far;");
        CHECKS.says(9, "or above these when they are more than the WINDOW.");
        for (int before = 900; before <= 1100; before += 4) {
            for (int back : new int[] {20, 40, 100}) {
                int distance = before + back;
                byte[] row = new Weaver(before).behind(content).sequence(before, distance, 20).literals(3).rowFrom(100);
                StatePress x = with(content);
                Checks.feed(x, row);
                x.press(0, 0, 1024);
                boolean told = FrameReader.copies(Checks.out(x), plain.book).contains(distance);
                // Of the 20 bytes those that are in the first row of 1024, or in the second one, are enough to be packed, or not.
                if (distance > 1024) {
                    CHECKS.due("distance " + distance + " behind " + before, told, false);
                }
                x.press(0, 1, 2048);
                CHECKS.due("distance " + distance + " behind " + before + ", a window of 2048",
                    FrameReader.copies(Checks.out(x), plain.book).contains(distance), true);
                x.press(0, 0, 100);
                CHECKS.due("rows of 100", Checks.out(x), plain.press(row, 0, 0, 100));
            }
        }
    }

    /** Literal length, distance, and how it must be told, one behind the other; copies are of four bytes, as far as they can be. */
    private static void latest() {
        CHECKS.says(9, "A distance is told by the least v that says it (by one of the LATEST, if that can be, its literal length being what it is).");
        // LATEST 1, 4, 8; then 4, 1, 8; 4, 1, 8; 8, 4, 1; 30, 8, 4; 4, 30, 8.
        tellings("each of the three", 12, new int[] {12, 4, 2, 2, 4, 1, 2, 8, 3, 2, 30, 33, 2, 4, 3});
        // 20, 1, 4; 50, 20, 1; 20, 50, 1 by the second; 50, 20, 1 by the second.
        tellings("the second, by turns", 60, new int[] {60, 20, 23, 2, 50, 53, 2, 20, 2, 2, 50, 2});
        // 20, 1, 4; 50, 20, 1; 90, 50, 20; 20, 90, 50 by the third; 50, 20, 90 by the third.
        tellings("the third, by turns", 100, new int[] {100, 20, 23, 2, 50, 53, 2, 90, 93, 2, 20, 3, 2, 50, 3});
        // Without literals before it: the second is told by 1, the third by 2, the first less 1 by 3.
        tellings("without literals, the second", 60, new int[] {60, 20, 23, 2, 50, 53, 0, 20, 1});
        tellings("without literals, the third", 100, new int[] {100, 20, 23, 2, 50, 53, 2, 90, 93, 0, 20, 2});
        tellings("without literals, the first less 1", 100, new int[] {100, 50, 53, 0, 49, 3});
        tellings("without literals, the first and 1", 100, new int[] {100, 50, 53, 0, 51, 54});
        // With literals the first less 1 is told as any other.
        tellings("with literals, the first less 1", 100, new int[] {100, 50, 53, 1, 49, 52});
        // 50, 49, ..: the second comes before the first less 1.
        tellings("the second is the first less 1", 100, new int[] {100, 49, 52, 1, 50, 53, 0, 49, 1});
        // 49, 50, 1 after it: the changes of the first less 1.
        tellings("after the first less 1", 100, new int[] {100, 50, 53, 0, 49, 3, 1, 50, 2, 1, 49, 2});
    }

    private static void tellings(String name, int first, int[] triples) {
        Weaver weaver = new Weaver(first);
        List<Integer> copies = new ArrayList<>();
        List<Integer> told = new ArrayList<>();
        for (int i = 0; i < triples.length; i += 3) {
            weaver.sequence(triples[i], triples[i + 1], 4);
            copies.addAll(List.of(triples[i], triples[i + 1], 4));
            told.add(triples[i + 2]);
        }
        weaver.literals(1).copy(1, 80);
        copies.addAll(List.of(1, 1, 80));
        PlainPress plain = new PlainPress();
        byte[] out = copies(name, new StatePress(), plain, weaver.row(), 8000, copies.toArray(new Integer[0]));
        List<Integer> all = FrameReader.tellings(out, NONE);
        CHECKS.due(name + ", told " + all, all.subList(0, all.size() - 1).equals(told), true);
    }

    private static void latestOfABook() {
        CHECKS.says(9, "Otherwise, with w = v, but v + 1 if the literal length is 0: 1 the first; 2 the second, which changes with the first;"
            + " 3 the third, 4 the first less 1: which becomes the first, the others (of 3: the first two) going one behind.");
        byte[] content = new Weaver(8).literals(200).row();
        int[][] books = {{50, 60, 70}, {50, 49, 70}, {50, 60, 49}, {50, 50, 50}, {1, 60, 70}, {200, 199, 198}, {50, 70, 70}};
        for (int[] latest : books) {
            for (int distance : new int[] {48, 49, 50, 51, 60, 69, 70, 198, 199, 200}) {
                for (int literals : new int[] {0, 1}) {
                    byte[] head = PlainPress.join(Books.MARK, Books.ID, Books.CODES, Books.SHARES, Books.latest(latest[0], latest[1], latest[2]));
                    PlainPress plain = new PlainPress();
                    plain.book = FrameReader.book(PlainPress.join(head, content));
                    byte[] row = new Weaver(9).behind(content).sequence(literals, distance, 40).rowFrom(200);
                    String name = Arrays.toString(latest) + ", distance " + distance + ", literals " + literals;
                    byte[] out = copies(name, with(PlainPress.join(head, content)), plain, row, 8000, literals, distance, 40);
                    int want = distance + 3;
                    int[] three = {literals > 0 ? latest[0] : latest[1], literals > 0 ? latest[1] : latest[2],
                        literals > 0 ? latest[2] : latest[0] - 1};
                    for (int v = 3; v >= 1; v--) {
                        want = three[v - 1] == distance ? v : want;
                    }
                    CHECKS.due(name + ", told", FrameReader.tellings(out, plain.book).get(0), want);
                }
            }
        }
    }

    /** A copy that goes on over a row's end: without literals the first distance can't be told by the LATEST. */
    private static void latestOverRows() {
        CHECKS.says(9, "with w = v, but v + 1 if the literal length is 0:");
        byte[] row = new Weaver(2).literals(60).copy(20, 140).row();
        PlainPress plain = new PlainPress();
        // 20, 1, 4; 20, 20, 1: the second; 20, 20, 20.
        byte[] out = copies("a copy over rows", new StatePress(), plain, row, 80, 60, 20, 20, 0, 20, 80, 0, 20, 40);
        CHECKS.due("told " + FrameReader.tellings(out, NONE), FrameReader.tellings(out, NONE).equals(List.of(23, 23, 1)), true);
    }

    /** Literal lengths and match lengths that are all the same: after mode 1 the table has one symbol alone. */
    private static void oneSymbolAlone() {
        CHECKS.says(9, "A table of one symbol alone (L 0) costs none.");
        CHECKS.says(9, "3, if there is a table as it was and all symbols have points there (of one symbol alone: are that): the row of states.");
        byte[] content = new Weaver(4).literals(3000).row();
        for (int other = 0; other < 3; other++) {
            Weaver weaver = new Weaver(7).behind(content);
            List<Integer> want = new ArrayList<>();
            for (int i = 0; i < 22; i++) {
                // Two rows, the first of 120 bytes; the second one, of up to 110, has another literal length, or match length, or none.
                int literals = other == 1 && i >= 12 ? 5 : 4;
                int length = other == 2 && i >= 12 ? 7 : 6;
                want.addAll(List.of(literals, weaver.sequenceFrom(literals, 100 * i + 1, length), length));
            }
            byte[] row = weaver.rowFrom(3000);
            PlainPress plain = new PlainPress();
            plain.book = FrameReader.book(content);
            plain.least = 6;
            byte[] out = copies("rows alike", with(content), plain, row, 120, want.toArray(new Integer[0]));
            List<FrameReader.Block> blocks = FrameReader.blocks(out, plain.book);
            CHECKS.due("the first row's literal lengths", blocks.get(0).modes[0], 1);
            CHECKS.due("the first row's match lengths", blocks.get(0).modes[2], 1);
            CHECKS.due("the second row's literal lengths", blocks.get(1).modes[0], other == 1 ? 1 : 3);
            CHECKS.due("the second row's match lengths", blocks.get(1).modes[2], other == 2 ? 1 : 3);
        }
        CHECKS.says(9, "1, if all are the same: 8;");
        for (int n = 1; n <= 4; n++) {
            // One sequence costs 6 by the known share, two cost more than 8.
            Weaver weaver = new Weaver(9).behind(content);
            for (int i = 0; i < n; i++) {
                weaver.sequenceFrom(4, 100 * i + 1, 40);
            }
            StatePress x = with(content);
            Checks.feed(x, weaver.rowFrom(3000));
            x.rule(2, 6);
            x.press(0, 4, 8000);
            PlainPress.Book book = FrameReader.book(content);
            CHECKS.due(n + " sequences, literal lengths", FrameReader.blocks(Checks.out(x), book).get(0).modes[0], n == 1 ? 0 : 1);
        }
    }

    /** The dictionary's table knows some symbols and not others. */
    private static void tableAsItWas() {
        CHECKS.says(9, "all symbols have points there");
        byte[] content = new Weaver(4).literals(2000).row();
        // Literal lengths 2 and 3, match lengths 5 and 6 (symbols 2 and 3).
        int[] points = {0, 0, 16, -1, 15};
        byte[] share = PlainPress.told(points);
        int[] all = new int[12];
        Arrays.fill(all, 3);
        all[0] = -1;
        all[11] = 1;
        byte[] book = PlainPress.join(Books.MARK, Books.ID, Books.CODES, PlainPress.told(all), share, share, Books.LATEST, content);
        for (int other = 1; other <= 6; other++) {
            Weaver weaver = new Weaver(7).behind(content);
            List<Integer> want = new ArrayList<>();
            for (int i = 0; i < 12; i++) {
                int literals = i == 7 ? other : 2 + i % 2 * 2;
                int length = i == 5 ? 3 + other : 5 + i % 2 * 2;
                want.addAll(List.of(literals, weaver.sequenceFrom(literals, 150 * i + 1, length), length));
            }
            PlainPress plain = new PlainPress();
            plain.book = FrameReader.book(book);
            plain.least = 4;
            byte[] out = copies("a symbol of " + other, with(book), plain, weaver.rowFrom(2000), 8000, want.toArray(new Integer[0]));
            boolean told = other >= 2 && other <= 4;
            FrameReader.Block block = FrameReader.blocks(out, plain.book).get(0);
            CHECKS.due("literal lengths with " + other + ", mode 3", block.modes[0] == 3, told);
            CHECKS.due("match lengths with " + other + ", mode 3", block.modes[2] == 3, told);
        }
    }

    /** Tables that cost as much by one mode as by another, or one bit more. */
    private static void modes() {
        CHECKS.says(9, "8 for each byte that it takes, and the row of states, the order of the least cost, of the same the least one;");
        CHECKS.says(9, "For each of the three tables the mode of the least cost in bits, of the same the least mode:");
        int[][] pairs = {{0, 2}, {0, 3}, {1, 3}, {2, 3}};
        int[][] seen = new int[4][3];
        int[] orders = new int[3];
        for (int seed = 0; seed < 700; seed++) {
            Random random = new Random(seed);
            StatePress x = new StatePress();
            PlainPress plain = new PlainPress();
            byte[] row = Checks.row(random, 300 + random.nextInt(900));
            Checks.feed(x, row);
            if (random.nextBoolean() && x.make(3) > 0) {
                plain.book = FrameReader.book(Checks.out(x));
                x.turn();
                x.learn();
                Checks.feed(x, row);
            }
            int cut = 60 + random.nextInt(400);
            byte[] want = plain.press(row, 0, 1, cut);
            x.press(0, 1, cut);
            CHECKS.due("seed " + seed, Checks.out(x), want);
            List<PlainPress.Trial> trials = plain.trials;
            int at = 0;
            for (FrameReader.Block block : FrameReader.blocks(Checks.out(x), plain.book)) {
                if (block.kind != 1) {
                    PlainPress.Trial trial = trials.get(at++);
                    if (block.kind == 2 && block.sequences > 0) {
                        weigh(block, trial, pairs, seen, orders);
                    }
                }
            }
            CHECKS.due("rows tried, seed " + seed, at, trials.size());
        }
        for (int i = 0; i < 4; i++) {
            for (int more = 0; more < 3; more++) {
                CHECKS.due("modes " + pairs[i][0] + " and " + pairs[i][1] + ", the first with " + (more - 1) + " more, seen", seen[i][more] > 0, true);
            }
        }
        for (int more = 0; more < 3; more++) {
            CHECKS.due("an order with " + (more - 1) + " more than the least, seen", orders[more] > 0, true);
        }
    }

    private static void weigh(FrameReader.Block block, PlainPress.Trial trial, int[][] pairs, int[][] seen, int[] orders) {
        for (int kind = 0; kind < 3; kind++) {
            int[] cost = trial.modes[kind];
            for (int i = 0; i < pairs.length; i++) {
                compare(block.modes[kind], cost, pairs[i][0], pairs[i][1], seen[i]);
            }
            if (block.modes[kind] == 2) {
                int order = PlainPress.order(block.points[kind]);
                int[] costs = trial.orders[kind];
                for (int other = 5; other < costs.length; other++) {
                    int more = costs[other] - costs[order];
                    boolean right = costs[other] < 0 || other == order || more > 0 || more == 0 && other > order;
                    CHECKS.due("order " + order + " and not " + other, right, true);
                    if (costs[other] >= 0 && other != order && more >= 0 && more <= 1) {
                        orders[more == 1 ? 2 : 1]++;
                        orders[0] += other < order ? 1 : 0;
                    }
                }
            }
        }
    }

    private static void compare(int mode, int[] cost, int first, int second, int[] seen) {
        if (cost[first] < 0 || cost[second] < 0) {
            return;
        }
        int more = cost[first] - cost[second];
        int best = Math.min(cost[first], cost[second]);
        for (int m = 0; m < 4; m++) {
            if (m != first && m != second && cost[m] >= 0 && cost[m] <= best) {
                return;
            }
        }
        CHECKS.due("modes " + first + " and " + second + ", the first with " + more + " more", mode, more > 0 ? second : first);
        if (more >= -1 && more <= 1) {
            seen[more + 1]++;
        }
    }

    /** A row that is not packed in fewer bytes, but has copies: the row behind it knows nothing of their distances and tables. */
    private static void keptByKindTwo() {
        CHECKS.says(9, "CODES, TABLES and LATEST change by a block that is of kind 2 alone.");
        int[] seen = new int[2];
        for (int seed = 0; seed < 4000 && (seen[0] < 20 || seen[1] < 20); seed++) {
            Random random = new Random(seed);
            int n = 14 + random.nextInt(20);
            int distance = 9 + random.nextInt(5);
            Weaver weaver = new Weaver(seed).literals(n);
            weaver.copy(distance, 4 + random.nextInt(5));
            int cut = weaver.length();
            byte[] row = weaver.literals(distance).copy(distance, 4 * cut).row();
            PlainPress plain = new PlainPress();
            byte[] want = plain.press(row, 0, 0, cut);
            PlainPress.Trial trial = plain.trials.get(0);
            int more = trial.packed - trial.row;
            if (more < -1 || more > 0) {
                continue;
            }
            seen[more + 1]++;
            StatePress x = new StatePress();
            Checks.feed(x, row);
            x.press(0, 0, cut);
            CHECKS.due("the frame", Checks.out(x), want);
            List<Integer> told = FrameReader.tellings(Checks.out(x), NONE);
            // Packed, the first row's distance is the latest for the second row; not packed, it is told anew.
            CHECKS.due("the second row's distance is told by 1", told.get(more < 0 ? 1 : 0) == 1, more < 0);
        }
        CHECKS.due("rows of one less", seen[0] >= 20, true);
        CHECKS.due("rows of as many", seen[1] >= 20, true);
    }
}
