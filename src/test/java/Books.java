import java.util.Random;

/** Formed dictionaries, part by part, right ones and wrong ones. */
final class Books {
    static final byte[] MARK = Checks.bytes(55, 164, 48, 236);
    static final byte[] ID = Checks.bytes(7, 0, 0, 0);
    /** Two codes of one bit, for 0 and 1. */
    static final byte[] CODES = Checks.bytes(128, 0x10);
    static final byte[] SHARE = PlainPress.told(new int[] {16, 16});
    static final byte[] SHARES = join(SHARE, SHARE, SHARE);
    static final byte[] LATEST = latest(1, 4, 8);
    static final byte[] CONTENT = Checks.text("content!");

    static byte[] join(byte[]... rows) {
        return PlainPress.join(rows);
    }

    static byte[] latest(long first, long second, long third) {
        return join(PlainPress.number(first, 4), PlainPress.number(second, 4), PlainPress.number(third, 4));
    }

    static byte[] described(byte[] description) {
        return join(MARK, ID, description, SHARES, LATEST, CONTENT);
    }

    /** The share of distances, match lengths or literal lengths is this one. */
    static byte[] shared(int which, byte[] share) {
        byte[][] three = {SHARE, SHARE, SHARE};
        three[which] = share;
        return join(MARK, ID, CODES, three[0], three[1], three[2], LATEST, CONTENT);
    }

    /** A description by states, with any share that tells all weights, whatever they lead to. */
    static byte[] byStates(int[] points, int... weights) {
        return byStates(PlainPress.told(points), PlainPress.bytes(twoStates(points, weights) + "1"));
    }

    static byte[] byStates(byte[] share, byte[] stream) {
        return join(PlainPress.number(share.length + stream.length, 1), share, stream);
    }

    /** The bits of a row in two states, without the END. */
    static String twoStates(int[] points, int... weights) {
        PlainPress.Table table = new PlainPress.Table(points);
        int k = weights.length;
        int[] states = {table.lowest(weights[k - 1]), table.lowest(weights[k - 2])};
        StringBuilder text = new StringBuilder();
        int turn = 0;
        for (int i = k - 3; i >= 0; i--) {
            states[turn] = table.step(weights[i], states[turn], text);
            turn = 1 - turn;
        }
        return text + PlainPress.bits(states[turn], table.order) + PlainPress.bits(states[1 - turn], table.order);
    }

    /** What learn() answers, and then: a dictionary that is taken is that of the bytes, and one that is not changes nothing. */
    static void learns(Checks checks, String name, byte[] row, int want) {
        Twins twins = Twins.used();
        twins.feed(row);
        checks.due(name + ": learn()", twins.x.learn(), want);
        if (want < 0) {
            twins.alike(checks, name + ": after learn()");
            return;
        }
        checks.due(name + ": IN is empty", twins.x.again(1, 0), false);
        checks.due(name + ": OUT stays", Checks.out(twins.x), Checks.out(twins.y));
        PlainPress plain = new PlainPress();
        plain.book = FrameReader.book(row);
        checks.due(name + ": the bytes of content", plain.book.content.length, want);
        plain.way = 3;
        plain.least = 4;
        pressed(checks, name, twins.x, plain, Checks.text("the dictionary before, content!content!, the content"));
        pressed(checks, name + ", literals", twins.x, plain, literals(plain.book));
    }

    private static void pressed(Checks checks, String name, StatePress x, PlainPress plain, byte[] row) {
        Checks.feed(x, row);
        x.press(8, 0, 1024);
        checks.due(name + ": the frame then", Checks.out(x), plain.press(row, 8, 0, 1024));
        for (int what = 0; what < 12; what++) {
            checks.due(name + ": about(" + what + ") then", x.about(what), plain.abouts[what]);
        }
    }

    /** Literals as the codes like them best, and few copies. */
    private static byte[] literals(PlainPress.Book book) {
        byte[] row = new byte[90];
        Random random = new Random(row.length);
        int[] cells = book.lengths == null ? new int[] {1, 2, 3, 3} : PlainPress.cells(book.lengths);
        for (int i = 0; i < row.length; i++) {
            row[i] = (byte) cells[random.nextInt(cells.length)];
        }
        return row;
    }
}
