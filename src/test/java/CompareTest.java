import java.util.Random;

/** Promises 6 to 11: many rows, with dictionaries and without, against PlainPress and FrameReader. */
public final class CompareTest {
    public static void main(String[] args) {
        int rounds = args.length > 0 ? Integer.parseInt(args[0]) : 1500;
        long seed = args.length > 1 ? Long.parseLong(args[1]) : 1;
        Checks checks = new Checks();
        for (int i = 0; i < rounds; i++) {
            round(checks, new Random(seed * 1000003 + i), "round " + i);
        }
        checks.end();
    }

    private static void round(Checks checks, Random random, String name) {
        StatePress x = new StatePress();
        PlainPress plain = new PlainPress();
        int books = random.nextInt(4);
        for (int i = 0; i < books; i++) {
            learn(checks, random, x, plain, name);
        }
        if (random.nextInt(6) == 0) {
            x.forget();
            plain.book = new PlainPress.Book();
        }
        if (random.nextInt(4) > 0) {
            plain.way = random.nextInt(4);
            plain.least = 3 + random.nextInt(6);
            checks.due(name + " rule", x.rule(plain.way, plain.least), true);
        }
        int[] sizes = {20, 100, 400, 1500, 4000, 8000};
        byte[] row = Checks.row(random, random.nextInt(1 + sizes[random.nextInt(random.nextInt(8) > 0 ? 4 : 6)]));
        if (books > 0 && random.nextBoolean()) {
            mixIn(random, row, plain.book.content);
        }
        for (int i = 0; i < 3; i++) {
            press(checks, random, x, plain, row, name);
        }
    }

    private static void mixIn(Random random, byte[] row, byte[] content) {
        for (int i = 0; i < 5; i++) {
            int n = random.nextInt(1 + Math.min(60, Math.min(row.length, content.length)));
            System.arraycopy(content, random.nextInt(1 + content.length - n), row, random.nextInt(1 + row.length - n), n);
        }
    }

    private static void learn(Checks checks, Random random, StatePress x, PlainPress plain, String name) {
        byte[] row = Checks.row(random, random.nextInt(random.nextBoolean() ? 60 : 2500));
        if (random.nextInt(4) == 0) {
            Checks.feed(x, row);
            checks.due(name + " learn", x.learn(), row.length);
            plain.book = FrameReader.book(row);
            return;
        }
        int[] ids = {0, 1, 255, 256, 65535, 65536, -1, 77};
        int id = ids[random.nextInt(ids.length)];
        Checks.feed(x, row);
        byte[] want = plain.make(row, id);
        checks.due(name + " make", x.make(id), want == null ? -1 : want.length);
        if (want != null) {
            checks.due(name + " made", Checks.out(x), want);
            checks.due(name + " turn", x.turn(), true);
            if (random.nextBoolean()) {
                otherDistances(random, want, row.length);
                Checks.feed(x, want);
            }
            checks.due(name + " learn", x.learn(), row.length);
            plain.book = FrameReader.book(want);
        }
    }

    private static void otherDistances(Random random, byte[] book, int content) {
        for (int i = 0; i < 3; i++) {
            byte[] distance = PlainPress.number(1 + random.nextInt(Math.min(content, 30)), 4);
            System.arraycopy(distance, 0, book, book.length - content - 12 + 4 * i, 4);
        }
    }

    private static void press(Checks checks, Random random, StatePress x, PlainPress plain, byte[] row, String name) {
        Checks.feed(x, row);
        int flags = random.nextInt(16);
        int e = random.nextInt(random.nextInt(3) > 0 ? 3 : 12);
        int most = (flags & 4) != 0 ? 8000 : Math.min(8000, 1024 << e);
        int cut = random.nextInt(3) == 0 ? most : 1 + random.nextInt(random.nextBoolean() ? most : Math.min(most, 200));
        byte[] old = Checks.out(x);
        int[] abouts = plain.abouts;
        byte[] want = plain.press(row, flags, e, cut);
        String call = name + " press(" + flags + ", " + e + ", " + cut + ") of " + row.length;
        checks.due(call, x.press(flags, e, cut), want == null ? -1 : want.length);
        checks.due(call, Checks.out(x), want == null ? old : want);
        for (int what = 0; what < 12; what++) {
            checks.due(call + " about " + what, x.about(what), want == null ? abouts[what] : plain.abouts[what]);
        }
        if (want != null) {
            checks.due(call + " content", FrameReader.content(want, plain.book), row);
        }
    }
}
