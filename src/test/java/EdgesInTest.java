import java.util.Arrays;

/** The boundary cases of promises 1 to 5: a new object, write, again, clear, turn. */
public final class EdgesInTest {
    private static final Checks CHECKS = new Checks();
    private static final int[] FAR = {Integer.MIN_VALUE, Integer.MIN_VALUE + 1, -256, 256, Integer.MAX_VALUE - 1, Integer.MAX_VALUE};

    public static void main(String[] args) {
        newObject();
        newDictionary();
        newRule();
        writeNumbers();
        writeFull();
        writeHighest();
        againBytes();
        againTimes();
        againFull();
        againWraps();
        clear();
        turnLimit();
        turnEmpty();
        turnApart();
        CHECKS.end();
    }

    /** So many bytes in IN, the last one of them 7, the others 0. */
    private static Twins filled(int n) {
        Twins twins = new Twins();
        for (StatePress one : new StatePress[] {twins.x, twins.y}) {
            if (n > 1) {
                one.write(0, 1);
                one.again(1, n - 2);
            }
            if (n > 0) {
                one.write(7L << 56, 1);
            }
        }
        return twins;
    }

    private static byte[] filledRow(int n) {
        byte[] row = new byte[n];
        if (n > 0) {
            row[n - 1] = 7;
        }
        return row;
    }

    private static void newObject() {
        CHECKS.says(1, "IN is a row of at most 8,000 bytes, OUT of at most 12,000, empty at first.");
        StatePress x = new StatePress();
        CHECKS.due("size()", x.size(), 0);
        CHECKS.due("byteAt(0)", x.byteAt(0), -1);
        CHECKS.due("again(1, 0)", x.again(1, 0), false);
        CHECKS.due("turn()", x.turn(), true);
        CHECKS.due("again(1, 0) after turn()", x.again(1, 0), false);
        CHECKS.due("make(1)", x.make(1), -1);
        CHECKS.due("size() after make(1)", x.size(), 0);
        CHECKS.due("press(0, 0, 1)", x.press(0, 0, 1), 9);
        CHECKS.due("its frame", Checks.out(x), Checks.bytes(40, 181, 47, 253, 0, 0, 1, 0, 0));
        CHECKS.due("learn()", x.learn(), 0);
        x = new StatePress();
        for (int what = -1; what <= 12; what++) {
            CHECKS.due("about(" + what + ")", x.about(what), what < 0 || what > 11 ? -1 : 0);
        }
        CHECKS.says(1, "All is as said.");
        StatePress used = Twins.used().x;
        CHECKS.due("size() of a new one beside a used one", new StatePress().size(), 0);
        CHECKS.due("again(1, 0) of it", new StatePress().again(1, 0), false);
        CHECKS.due("the used one stays", used.size() > 0 && used.again(1, 0), true);
    }

    private static void newDictionary() {
        CHECKS.says(1, "THE DICTIONARY (none at first) has a CONTENT and an ID.");
        StatePress x = new StatePress();
        StatePress y = new StatePress();
        y.forget();
        byte[] row = Checks.text("abc, abcd, abcde, abcdefgh");
        Checks.feed(x, row);
        Checks.feed(y, row);
        CHECKS.due("no ID: press(8, 0, 1024)", x.press(8, 0, 1024), x.press(0, 0, 1024));
        CHECKS.due("the head", x.byteAt(4), 0);
        y.press(0, 0, 1024);
        CHECKS.due("as after forget()", Checks.out(x), Checks.out(y));
        CHECKS.says(1, "At the beginning of a frame there are else no CODES and no TABLES.");
        x.press(4, 0, 3);
        CHECKS.due("no CODES as they were", x.about(7), 0);
        CHECKS.due("no TABLES as they were", x.about(11), 0);
    }

    private static void newRule() {
        CHECKS.says(1, "The RULE (at first way 2, LEAST 3) says these two.");
        int same = 0;
        StatePress x = new StatePress();
        Checks.feed(x, Twins.ROW);
        x.press(0, 0, 1024);
        byte[] first = Checks.out(x);
        for (int way = 0; way <= 3; way++) {
            for (int least = 3; least <= 8; least++) {
                x.rule(way, least);
                x.press(0, 0, 1024);
                boolean alike = Arrays.equals(Checks.out(x), first);
                same += alike ? 1 : 0;
                CHECKS.due("the frame by rule(" + way + ", " + least + ") is as at first", alike, way == 2 && least == 3);
            }
        }
        CHECKS.due("rules that have the first frame", same, 1);
    }

    private static void writeNumbers() {
        CHECKS.says(2, "false, refused, when n is not 1 .. 8 or there would be more than 8,000.");
        long eight = 0x0180FF7F00C3E2A5L;
        byte[] all = Checks.bytes(0x01, 0x80, 0xFF, 0x7F, 0x00, 0xC3, 0xE2, 0xA5);
        for (int n = -9; n <= 17; n++) {
            writes(eight, n, n >= 1 && n <= 8, all);
        }
        for (int n : FAR) {
            writes(eight, n, false, all);
        }
    }

    private static void writes(long eight, int n, boolean taken, byte[] all) {
        Twins twins = Twins.used();
        CHECKS.due("write(.., " + n + ")", twins.x.write(eight, n), taken);
        if (taken) {
            CHECKS.due("IN after write(.., " + n + ")", twins.in(), PlainPress.join(Twins.ROW, Arrays.copyOf(all, n)));
        } else {
            twins.alike(CHECKS, "after write(.., " + n + ")");
        }
    }

    private static void writeFull() {
        CHECKS.says(2, "or there would be more than 8,000.");
        for (int used = 7991; used <= 8000; used++) {
            for (int n = 1; n <= 8; n++) {
                Twins twins = filled(used);
                String call = "write(.., " + n + ") to " + used;
                CHECKS.due(call, twins.x.write(-1, n), used + n <= 8000);
                if (used + n <= 8000) {
                    byte[] want = Arrays.copyOf(filledRow(used), used + n);
                    Arrays.fill(want, used, used + n, (byte) 255);
                    CHECKS.due("IN after " + call, twins.in(), want);
                } else {
                    twins.alike(CHECKS, "after " + call);
                    CHECKS.due("what is left then", used == 8000 || twins.x.write(-1, 8000 - used), true);
                }
            }
        }
        Twins full = filled(8000);
        for (int n : new int[] {-1, 0, 1, 8, 9, Integer.MAX_VALUE, Integer.MIN_VALUE}) {
            CHECKS.due("write(.., " + n + ") to a full IN", full.x.write(0, n), false);
        }
        full.alike(CHECKS, "after these");
    }

    private static void writeHighest() {
        CHECKS.says(2, "Appends to IN the n highest bytes of eight, the highest first: true;");
        long[] eights = {0, -1, Long.MIN_VALUE, Long.MAX_VALUE, 0x00000000000000FFL, 0xFF00000000000000L, 0x0102030405060708L};
        for (long eight : eights) {
            StatePress x = new StatePress();
            byte[] want = new byte[0];
            for (int n = 1; n <= 8; n++) {
                CHECKS.due("write(" + eight + ", " + n + ")", x.write(eight, n), true);
                for (int i = 0; i < n; i++) {
                    want = PlainPress.join(want, new byte[] {(byte) (eight >> (56 - 8 * i))});
                }
            }
            CHECKS.due("IN after write(" + eight + ", 1 .. 8)", Checks.in(x), want);
        }
    }

    private static void againBytes() {
        CHECKS.says(3, "False, refused, when m is not 1 .. how many it has, n is below 0, or there would be more than 8,000.");
        int has = Twins.ROW.length;
        int[] near = {-1, 0, 1, 2, has - 1, has, has + 1, has + 2};
        for (int m : near) {
            againOf(m, 1, m >= 1 && m <= has);
            againOf(m, 0, m >= 1 && m <= has);
        }
        for (int m : new int[] {Integer.MIN_VALUE, -1000, 8000, 8001, Integer.MAX_VALUE}) {
            againOf(m, 1, false);
            againOf(m, 0, false);
        }
        for (int m = -1; m <= 1; m++) {
            for (int n = -1; n <= 1; n++) {
                StatePress x = new StatePress();
                CHECKS.due("again(" + m + ", " + n + ") of an empty IN", x.again(m, n), false);
                CHECKS.due("IN then", Checks.in(x), new byte[0]);
            }
        }
        StatePress x = new StatePress();
        x.write(5L << 56, 1);
        CHECKS.due("again(2, 1) of one byte", x.again(2, 1), false);
        CHECKS.due("again(1, 1) of one byte", x.again(1, 1), true);
        CHECKS.due("again(2, 1) of two bytes", x.again(2, 1), true);
        CHECKS.due("IN then", Checks.in(x), Checks.bytes(5, 5, 5, 5));
    }

    private static void againOf(int m, int n, boolean taken) {
        Twins twins = Twins.used();
        String call = "again(" + m + ", " + n + ")";
        CHECKS.due(call, twins.x.again(m, n), taken);
        if (!taken || n == 0) {
            twins.alike(CHECKS, "after " + call);
            return;
        }
        byte[] want = Twins.ROW;
        for (int i = 0; i < n; i++) {
            want = PlainPress.join(want, Arrays.copyOfRange(Twins.ROW, Twins.ROW.length - m, Twins.ROW.length));
        }
        CHECKS.due("IN after " + call, twins.in(), want);
    }

    private static void againTimes() {
        CHECKS.says(3, "n is below 0,");
        for (int n = -2; n <= 4; n++) {
            againOf(3, n, n >= 0);
            againOf(Twins.ROW.length, n, n >= 0);
        }
        againOf(1, Integer.MIN_VALUE, false);
        againOf(Twins.ROW.length, Integer.MIN_VALUE, false);
    }

    private static void againFull() {
        CHECKS.says(3, "or there would be more than 8,000.");
        int[][] cases = {{1, 7999}, {1, 7998}, {1, 8000}, {4000, 1}, {4000, 2}, {3999, 1}, {4001, 1}, {2000, 3}, {2000, 4},
            {1999, 3}, {2001, 3}, {7999, 1}, {8000, 1}, {8000, 0}, {100, 79}, {100, 80}, {7, 1141}, {7, 1142}};
        for (int[] one : cases) {
            int m = one[0];
            int n = one[1];
            Twins twins = filled(m);
            long would = m + (long) m * n;
            String call = "again(" + m + ", " + n + ") of " + m;
            CHECKS.due(call, twins.x.again(m, n), would <= 8000);
            if (would > 8000) {
                twins.alike(CHECKS, "after " + call);
            } else {
                byte[] want = new byte[0];
                for (int i = 0; i <= n; i++) {
                    want = PlainPress.join(want, filledRow(m));
                }
                CHECKS.due("IN after " + call, twins.in(), want);
            }
        }
        StatePress full = filled(8000).x;
        CHECKS.due("again(1, 1) of a full IN", full.again(1, 1), false);
        CHECKS.due("again(8000, 1) of a full IN", full.again(8000, 1), false);
        CHECKS.due("again(8000, 0) of a full IN", full.again(8000, 0), true);
        CHECKS.due("again(8001, 0) of a full IN", full.again(8001, 0), false);
        CHECKS.due("IN then", Checks.in(full), filledRow(8000));
    }

    /** Numbers whose product, or whose sum, would be small again in 32 bits. */
    private static void againWraps() {
        CHECKS.says(3, "Appends to IN n times its last m bytes.");
        int[][] cases = {{4096, 1 << 20}, {4096, (1 << 20) - 1}, {4096, 1 << 19}, {8000, 536871}, {8000, 268436},
            {1, Integer.MAX_VALUE}, {2, Integer.MAX_VALUE}, {2, 1 << 30}, {2, 1 << 31}, {3, 1431655766}, {16, 1 << 28},
            {5000, 858994}, {8000, Integer.MAX_VALUE}, {7777, Integer.MAX_VALUE}};
        for (int[] one : cases) {
            Twins twins = filled(one[0]);
            String call = "again(" + one[0] + ", " + one[1] + ")";
            CHECKS.due(call, twins.x.again(one[0], one[1]), false);
            twins.alike(CHECKS, "after " + call);
        }
    }

    private static void clear() {
        CHECKS.says(4, "IN becomes empty.");
        int[] numbers = {0, 1, 2, 7999, 8000};
        for (int n : numbers) {
            StatePress x = filled(n).x;
            x.clear();
            CHECKS.due("again(1, 0) after clear() of " + n, x.again(1, 0), false);
            CHECKS.due("IN after clear() of " + n, Checks.in(x), new byte[0]);
            x.clear();
            CHECKS.due("write after it", x.write(-1, 1), true);
            CHECKS.due("again up to 8,000 after it", x.again(1, 7999), true);
            CHECKS.due("again beyond 8,000 after it", x.again(1, 1), false);
            byte[] want = new byte[8000];
            Arrays.fill(want, (byte) 255);
            CHECKS.due("IN then", Checks.in(x), want);
        }
        Twins twins = Twins.used();
        twins.x.clear();
        twins.x.clear();
        Checks.feed(twins.x, Twins.ROW);
        twins.alike(CHECKS, "after clear() and the same bytes");
    }

    /** IN of which press(flags, 0, 2) makes a frame of so many bytes: 6, 5 for each two bytes, 4 for one, 4 for the sum. */
    private static int frame(StatePress x, int pairs, int one, int flags) {
        x.clear();
        x.write(0x6162000000000000L, 2);
        x.again(2, pairs - 1);
        if (one > 0) {
            x.write(0, 1);
        }
        return x.press(flags, 0, 2);
    }

    private static void turnLimit() {
        CHECKS.says(5, "False, refused, when that has more than 8,000 bytes.");
        int[][] frames = {{1597, 1, 1, 7999}, {1598, 1, 0, 8000}, {1599, 0, 0, 8001}, {1598, 0, 0, 7996}, {1597, 1, 0, 7995},
            {1598, 1, 1, 8004}, {2397, 1, 1, 11999}, {2398, 1, 0, 12000}};
        for (int[] one : frames) {
            Twins twins = Twins.used();
            CHECKS.due("a frame of " + one[3], frame(twins.x, one[0], one[1], one[2]), one[3]);
            frame(twins.y, one[0], one[1], one[2]);
            byte[] out = Checks.out(twins.x);
            twins.feed(Twins.ROW);
            CHECKS.due("turn() of " + one[3], twins.x.turn(), one[3] <= 8000);
            if (one[3] > 8000) {
                twins.alike(CHECKS, "after turn() of " + one[3]);
                continue;
            }
            CHECKS.due("OUT after turn() of " + one[3], Checks.out(twins.x), out);
            CHECKS.due("write after it", twins.x.write(1, 8), one[3] <= 7992);
            roomForOne(twins.x, one[3]);
            Checks.feed(twins.y, out);
            twins.x.turn();
            twins.alike(CHECKS, "after turn() of " + one[3] + ", and the same bytes,");
        }
    }

    /** OUT of 7,999 leaves room for one byte, that of 8,000 for none. */
    private static void roomForOne(StatePress x, int n) {
        if (n >= 7999) {
            CHECKS.due("write of one byte after turn() of " + n, x.write(1, 1), n < 8000);
        }
    }

    private static void turnEmpty() {
        CHECKS.says(5, "IN becomes OUT.");
        Twins twins = new Twins();
        twins.feed(Checks.text("abcdefgh"));
        CHECKS.due("turn() of an empty OUT", twins.x.turn(), true);
        CHECKS.due("again(1, 0) then", twins.x.again(1, 0), false);
        CHECKS.due("size() then", twins.x.size(), 0);
        twins.y.clear();
        twins.alike(CHECKS, "after turn() of an empty OUT, and clear()");
    }

    /** After turn() the two rows are the same, but not one and the same. */
    private static void turnApart() {
        CHECKS.says(5, "IN becomes OUT.");
        StatePress x = new StatePress();
        Checks.feed(x, Checks.text("abcabcabcabc"));
        x.press(0, 0, 1024);
        byte[] out = Checks.out(x);
        CHECKS.due("turn()", x.turn(), true);
        x.write(-1, 8);
        CHECKS.due("OUT after write", Checks.out(x), out);
        x.again(3, 40);
        CHECKS.due("OUT after again", Checks.out(x), out);
        CHECKS.due("turn() once more", x.turn(), true);
        CHECKS.due("OUT after it", Checks.out(x), out);
        CHECKS.due("IN after it", Checks.in(x), out);
        Checks.feed(x, out);
        x.press(0, 0, 1);
        x.turn();
        byte[] next = Checks.out(x);
        x.clear();
        CHECKS.due("OUT after clear()", Checks.out(x), next);
        x.turn();
        x.make(1);
        x.press(1, 0, 7);
        CHECKS.due("IN after other frames", Checks.in(x), next);
    }
}
