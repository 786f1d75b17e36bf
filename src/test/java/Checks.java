import java.util.Arrays;
import java.util.Random;

/**
 * What the tests share. They read whole rows byte by byte, which is more than 512 calls on an object:
 * the document leaves free what is answered then, and this class goes on as before.
 */
final class Checks {
    private int checked;
    private int wrong;
    private String by = "";

    /** From now on what is due is so by these words of a promise, or of a term that it uses. */
    void says(int promise, String words) {
        by = "";
        due("the document says, for promise " + promise + ", \"" + words + "\"", Document.says(promise, words), true);
        by = "Promise " + promise + ", \"" + words + "\": ";
    }

    void due(String call, long got, long want) {
        checked++;
        if (got != want) {
            wrong++;
            System.out.println(by + call + " answered " + got + ", due is " + want);
        }
    }

    void due(String call, boolean got, boolean want) {
        due(call, got ? 1 : 0, want ? 1 : 0);
    }

    void due(String call, byte[] got, byte[] want) {
        checked++;
        if (!Arrays.equals(got, want)) {
            wrong++;
            int k = Arrays.mismatch(got, want);
            System.out.println(by + call + ": " + got.length + " bytes, due are " + want.length + ", the first other one is " + k);
        }
    }

    void end() {
        System.out.println(checked + " answers, " + wrong + " not as due");
        if (wrong != 0 || checked == 0) {
            System.exit(1);
        }
    }

    static byte[] bytes(int... numbers) {
        byte[] row = new byte[numbers.length];
        for (int i = 0; i < row.length; i++) {
            row[i] = (byte) numbers[i];
        }
        return row;
    }

    static byte[] text(String text) {
        byte[] row = new byte[text.length()];
        for (int i = 0; i < row.length; i++) {
            row[i] = (byte) text.charAt(i);
        }
        return row;
    }

    /** IN becomes this row. */
    static void feed(StatePress x, byte[] row) {
        x.clear();
        for (int i = 0; i < row.length; i += 8) {
            long eight = 0;
            int n = Math.min(8, row.length - i);
            for (int j = 0; j < n; j++) {
                eight |= (row[i + j] & 255L) << (56 - 8 * j);
            }
            if (!x.write(eight, n)) {
                throw new IllegalStateException("write was refused");
            }
        }
    }

    static byte[] out(StatePress x) {
        byte[] row = new byte[x.size()];
        for (int k = 0; k < row.length; k++) {
            row[k] = (byte) x.byteAt(k);
        }
        return row;
    }

    /** IN, by way of a frame of OUT. */
    static byte[] in(StatePress x) {
        x.press(4, 0, 8000);
        return FrameReader.content(out(x), new PlainPress.Book());
    }

    /** Rows of many kinds, for the same seed the same row. */
    static byte[] row(Random random, int n) {
        byte[] row = new byte[n];
        int kind = random.nextInt(9);
        int size = 1 + random.nextInt(random.nextBoolean() ? 8 : 256);
        int start = random.nextInt(256);
        for (int i = 0; i < n; i++) {
            int back = 1 + random.nextInt(random.nextInt(20) == 0 ? 4000 : 40);
            if (kind == 0) {
                row[i] = (byte) (start + random.nextInt(size));
            } else if (kind == 1) {
                row[i] = (byte) (start + skewed(random) * (size | 1));
            } else if (kind == 2) {
                i += fill(row, i, WORDS[random.nextInt(WORDS.length)]) - 1;
            } else if (kind == 3) {
                i += copy(row, i, back, 1 + skewed(random) * 3, (byte) random.nextInt(size)) - 1;
            } else if (kind == 4) {
                i += copy(row, i, back, 2 + random.nextInt(60), (byte) (start + skewed(random))) - 1;
            } else if (kind == 5) {
                row[i] = (byte) (i * size);
            } else if (kind == 6) {
                row[i] = (byte) (random.nextInt(6) == 0 ? random.nextInt(256) : i % (3 + size) < 9 ? i % (3 + size) : start);
            } else if (kind == 7) {
                i += random.nextBoolean() ? fill(row, i, WORDS[skewed(random) % WORDS.length]) - 1
                    : copy(row, i, 1 + random.nextInt(n), 3 + skewed(random), (byte) start) - 1;
            } else {
                i += copy(row, i, i - random.nextInt(1 + i), random.nextInt(5), (byte) random.nextInt(256)) - 1;
            }
        }
        return row;
    }

    private static final String[] WORDS = {"the ", "state ", "press ", "of ", "a ", "dictionary ", "row", "\n", ", ",
        "copies ", "prefixes", " and ", "rules ", "that ", "leave ", "no ", "choice", ". "};

    private static int skewed(Random random) {
        int x = 0;
        while (random.nextInt(3) > 0 && x < 40) {
            x++;
        }
        return x;
    }

    private static int fill(byte[] row, int at, String word) {
        int n = Math.min(word.length(), row.length - at);
        for (int i = 0; i < n; i++) {
            row[at + i] = (byte) word.charAt(i);
        }
        return Math.max(n, 1);
    }

    private static int copy(byte[] row, int at, int back, int length, byte other) {
        int n = Math.min(length, row.length - at);
        if (back < 1 || back > at || n < 1) {
            row[at] = other;
            return 1;
        }
        for (int i = 0; i < n; i++) {
            row[at + i] = row[at + i - back];
        }
        return n;
    }
}
