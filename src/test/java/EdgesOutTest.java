/** The boundary cases of promises 11 to 13: about, size, byteAt. */
public final class EdgesOutTest {
    private static final Checks CHECKS = new Checks();

    public static void main(String[] args) {
        otherWhats();
        latestNotRefused();
        kinds();
        literals();
        modes();
        sizes();
        places();
        CHECKS.end();
    }

    private static void otherWhats() {
        CHECKS.says(11, "-1 for another what.");
        StatePress[] both = {new StatePress(), Twins.used().x};
        int[] far = {Integer.MIN_VALUE, -12, -1, 0, 1, 10, 11, 12, 13, 255, 256, Integer.MAX_VALUE};
        for (StatePress x : both) {
            for (int what : far) {
                CHECKS.due("about(" + what + ") is -1", x.about(what) == -1, what < 0 || what > 11);
            }
        }
    }

    private static int[] abouts(StatePress x) {
        int[] all = new int[12];
        for (int what = 0; what < 12; what++) {
            all[what] = x.about(what);
        }
        return all;
    }

    private static void due(String name, StatePress x, int... want) {
        int[] got = abouts(x);
        for (int what = 0; what < 12; what++) {
            CHECKS.due(name + ": about(" + what + ")", got[what], want[what]);
        }
    }

    /** Every other call leaves it as it is, and so do those of press that are refused. */
    private static void latestNotRefused() {
        CHECKS.says(11, "Of the latest press() that was not refused:");
        StatePress x = new StatePress();
        due("no press yet", x, new int[12]);
        CHECKS.due("press(16, 0, 1)", x.press(16, 0, 1), -1);
        due("only a refused one yet", x, new int[12]);
        Checks.feed(x, Checks.text("aaaaaaaaaaABCDEFGHIJabcabcabca"));
        CHECKS.due("press", x.press(0, 0, 10) > 0, true);
        int[] want = abouts(x);
        CHECKS.due("blocks", want[0] + want[1] + want[2], 3);
        int[][] refused = {{-1, 0, 10}, {16, 0, 10}, {0, -1, 10}, {0, 12, 10}, {0, 0, 0}, {0, 0, 8001}, {0, 0, 1025}};
        for (int[] call : refused) {
            CHECKS.due("press that is refused", x.press(call[0], call[1], call[2]), -1);
            due("after a refused press", x, want);
        }
        x.make(1);
        due("after make", x, want);
        x.turn();
        x.learn();
        due("after turn and learn", x, want);
        x.write(-1, 8);
        x.again(8, 900);
        x.rule(0, 3);
        x.forget();
        x.clear();
        due("after write, again, rule, forget and clear", x, want);
        x.write(0x6162000000000000L, 2);
        x.again(2, 3999);
        CHECKS.due("a frame of more than 12,000", x.press(0, 0, 2), -1);
        due("after a frame of more than 12,000", x, want);
        x.press(0, 3, 8000);
        due("after one that was not refused", x, 0, 0, 1, 1, 1, 0, 0, 0, 3, 0, 0, 0);
        // What was counted before is not counted once more.
        x.press(0, 3, 8000);
        due("after the same once more", x, 0, 0, 1, 1, 1, 0, 0, 0, 3, 0, 0, 0);
    }

    private static void kinds() {
        CHECKS.says(11, "how many blocks were of kind 0, 1, 2 (what 0, 1, 2);");
        StatePress x = new StatePress();
        x.press(0, 0, 1);
        due("an empty IN", x, 1, 0, 0, 0, 0, 0, 0, 0, 0, 0, 0, 0);
        x.write(0, 1);
        x.press(0, 0, 1);
        due("one byte", x, 0, 1, 0, 0, 0, 0, 0, 0, 0, 0, 0, 0);
        x.write(-1, 1);
        x.press(0, 0, 2);
        due("two bytes", x, 1, 0, 0, 0, 0, 0, 0, 0, 0, 0, 0, 0);
        x.press(0, 0, 1);
        due("two rows", x, 0, 2, 0, 0, 0, 0, 0, 0, 0, 0, 0, 0);
        // The most blocks that there can be.
        Checks.feed(x, new byte[2998]);
        x.press(0, 0, 1);
        due("2,998 rows", x, 0, 2998, 0, 0, 0, 0, 0, 0, 0, 0, 0, 0);
        CHECKS.says(11, "sequences in those of kind 2 (3);");
        // A row with a sequence that is of kind 0 all the same.
        Checks.feed(x, Checks.text("abc0abc1"));
        x.press(0, 0, 8);
        due("a sequence in a block of kind 0", x, 1, 0, 0, 0, 0, 0, 0, 0, 0, 0, 0, 0);
    }

    private static void literals() {
        CHECKS.says(11, "of these blocks, how many had LITERALS with k 0, 1, 2, 3 (4 .. 7);");
        StatePress x = new StatePress();
        PlainPress plain = new PlainPress();
        byte[] zeros = new byte[1200];
        for (int i = 0; i < zeros.length; i++) {
            zeros[i] = (byte) (i * i / 7 % 3 * (i % 11 % 2) + i % 5 / 4);
        }
        x.rule(2, 8);
        plain.least = 8;
        int[] seen = new int[12];
        for (int cut = 20; cut <= 600; cut += 20) {
            Checks.feed(x, zeros);
            plain.press(zeros, 4, 0, cut);
            x.press(4, 0, cut);
            due("rows of " + cut, x, plain.abouts);
            CHECKS.due("rows of " + cut + ": all blocks", x.about(0) + x.about(1) + x.about(2), (1200 + cut - 1) / cut);
            CHECKS.due("rows of " + cut + ": all literals", x.about(4) + x.about(5) + x.about(6) + x.about(7), x.about(2));
            for (int what = 0; what < 12; what++) {
                seen[what] += x.about(what);
            }
        }
        CHECKS.due("k 2 and k 3 are seen", seen[6] > 0 && seen[7] > 0, true);
        // No literals at all are literals with k 0.
        Checks.feed(x, Checks.text("abcdefghijklmnopqrstuvwxyz"));
        x.learn();
        Checks.feed(x, Checks.text("abcdefghijklmnopqrstuvwxyz"));
        x.press(0, 0, 26);
        due("no literals", x, 0, 0, 1, 1, 1, 0, 0, 0, 3, 0, 0, 0);
    }

    private static void modes() {
        CHECKS.says(11, "tables in those with sequences told by mode 0, 1, 2, 3 (8 .. 11).");
        StatePress x = new StatePress();
        // Literals alone, by codes: a block of kind 2 without sequences has no tables.
        byte[] row = new byte[60];
        for (int i = 0; i < row.length; i++) {
            row[i] = (byte) (i * i % 13 % 2);
        }
        x.rule(2, 8);
        int none = 0;
        for (int n = 20; n <= 60; n++) {
            Checks.feed(x, java.util.Arrays.copyOf(row, n));
            x.press(0, 0, 1024);
            int tables = x.about(8) + x.about(9) + x.about(10) + x.about(11);
            if (x.about(2) == 1 && x.about(3) == 0) {
                none++;
                CHECKS.due("tables without sequences", tables, 0);
            } else {
                CHECKS.due("tables with sequences", tables, x.about(2) == 1 ? 3 : 0);
            }
        }
        CHECKS.due("blocks without sequences are seen", none > 0, true);
        int[] seen = new int[12];
        for (int seed = 0; seed < 60; seed++) {
            byte[] more = Checks.row(new java.util.Random(seed), 900);
            PlainPress plain = new PlainPress();
            plain.least = 4;
            x.rule(2, 4);
            Checks.feed(x, more);
            plain.press(more, 0, 0, 150);
            x.press(0, 0, 150);
            due("seed " + seed, x, plain.abouts);
            for (int what = 0; what < 12; what++) {
                seen[what] += x.about(what);
            }
        }
        for (int what = 8; what < 12; what++) {
            CHECKS.due("about(" + what + ") is seen", seen[what] > 0, true);
        }
    }

    private static void sizes() {
        CHECKS.says(12, "How many bytes OUT has.");
        StatePress x = new StatePress();
        CHECKS.due("size() at first", x.size(), 0);
        x.write(0, 8);
        CHECKS.due("size() after write", x.size(), 0);
        CHECKS.due("make that is refused", x.make(1), -1);
        CHECKS.due("size() after it", x.size(), 0);
        CHECKS.due("press", x.press(0, 0, 8), 10);
        CHECKS.due("size() after press", x.size(), 10);
        CHECKS.due("a shorter one", x.press(4, 0, 8), 10);
        x.clear();
        CHECKS.due("size() after clear", x.size(), 10);
        CHECKS.due("press", x.press(0, 0, 1), 9);
        CHECKS.due("size() after it", x.size(), 9);
        CHECKS.due("press that is refused", x.press(0, 0, 0), -1);
        CHECKS.due("size() after it", x.size(), 9);
        x.turn();
        CHECKS.due("size() after turn", x.size(), 9);
        x.learn();
        x.forget();
        CHECKS.due("size() after learn and forget", x.size(), 9);
        x.write(0x6162000000000000L, 2);
        x.again(2, 2397);
        x.write(0, 1);
        CHECKS.due("the greatest frame", x.press(0, 0, 2), 12000);
        CHECKS.due("size() after it", x.size(), 12000);
        CHECKS.due("one that is too great", x.press(1, 0, 2), -1);
        CHECKS.due("size() after it", x.size(), 12000);
    }

    private static void places() {
        CHECKS.says(13, "Byte k of OUT, from 0, 0 .. 255; -1 when there is none.");
        StatePress x = new StatePress();
        int[] far = {Integer.MIN_VALUE, -12000, -1, 0, 1, 8, 9, 11999, 12000, Integer.MAX_VALUE};
        for (int k : far) {
            CHECKS.due("byteAt(" + k + ") of an empty OUT", x.byteAt(k), -1);
        }
        x.write(-1, 3);
        x.press(0, 0, 3);
        byte[] want = Checks.bytes(40, 181, 47, 253, 0, 0, 27, 0, 0, 255);
        for (int k = -3; k < 14; k++) {
            CHECKS.due("byteAt(" + k + ")", x.byteAt(k), k < 0 || k >= 10 ? -1 : want[k] & 255);
        }
        // A shorter OUT has nothing of the longer one behind it.
        x.clear();
        x.press(0, 0, 1);
        for (int k : far) {
            CHECKS.due("byteAt(" + k + ") of a shorter one is there", x.byteAt(k) >= 0, k >= 0 && k < 9);
        }
        x.write(0x6162000000000000L, 2);
        x.again(2, 2397);
        x.write(0, 1);
        CHECKS.due("the greatest frame", x.press(0, 0, 2), 12000);
        for (int k : far) {
            CHECKS.due("byteAt(" + k + ") of 12,000 is there", x.byteAt(k) >= 0, k >= 0 && k < 12000);
        }
        CHECKS.due("byteAt(11998)", x.byteAt(11998), 0);
        CHECKS.due("byteAt(11999)", x.byteAt(11999), 0);
        CHECKS.due("byteAt(11996)", x.byteAt(11996), 8 + 2 + 1);
        // All of 0 .. 255.
        byte[] all = new byte[256];
        for (int i = 0; i < 256; i++) {
            all[i] = (byte) i;
        }
        Checks.feed(x, all);
        CHECKS.due("a frame of all bytes", x.press(0, 0, 256), 265);
        for (int i = 0; i < 256; i++) {
            CHECKS.due("byteAt(" + (9 + i) + ")", x.byteAt(9 + i), i);
        }
    }
}
