import java.util.Arrays;
import java.util.Random;

/** Promise 10: make. */
public final class MakeTest {
    private static final Checks CHECKS = new Checks();

    public static void main(String[] args) {
        refused();
        made();
        byTheRule();
        manyLengths();
        random();
        CHECKS.end();
    }

    private static void refuses(String name, StatePress x, byte[] row) {
        byte[] out = Checks.out(x);
        Checks.feed(x, row);
        CHECKS.due(name, x.make(1), -1);
        CHECKS.due(name + " lets OUT be", Checks.out(x), out);
        CHECKS.due(name + " by PlainPress", new PlainPress().make(row, 1) == null, true);
    }

    private static void refused() {
        StatePress x = new StatePress();
        Checks.feed(x, Checks.text("before"));
        x.press(0, 0, 1024);
        refuses("an empty IN", x, new byte[0]);
        refuses("seven bytes", x, Checks.text("abcabca"));
        refuses("no sequences", x, Checks.text("abcdefghijk"));
        refuses("one literal", x, Checks.text("aaaaaaaaaaaa"));
        byte[] all = new byte[300];
        for (int i = 0; i < all.length; i++) {
            all[i] = (byte) i;
        }
        // All 256 literals have the length 8: these codes can't be described.
        refuses("codes that can't be described", x, all);
        Checks.feed(x, Checks.text("abcabcab"));
        CHECKS.due("eight bytes", x.make(1), new PlainPress().make(Checks.text("abcabcab"), 1).length);
    }

    private static void made() {
        byte[] row = Checks.text("one row of states, another row of states, and one more row of other states");
        int[] ids = {0, 1, -1, 77, 65536, Integer.MIN_VALUE, Integer.MAX_VALUE};
        for (int id : ids) {
            StatePress x = new StatePress();
            Checks.feed(x, row);
            byte[] want = new PlainPress().make(row, id);
            CHECKS.due("make(" + id + ")", x.make(id), want.length);
            byte[] out = Checks.out(x);
            CHECKS.due("make(" + id + ")", out, want);
            PlainPress.Book book = FrameReader.book(out);
            CHECKS.due("its ID", book.id, id & 0xFFFFFFFFL);
            CHECKS.due("its content", book.content, row);
            CHECKS.due("its distances", Arrays.equals(book.latest, new int[] {1, 4, 8}), true);
            CHECKS.due("IN stays", Checks.in(x), row);
        }
    }

    /** The rule counts, the dictionary does not. */
    private static void byTheRule() {
        byte[] row = Checks.row(new Random(77), 600);
        for (int way = 0; way < 4; way++) {
            for (int least = 3; least < 9; least++) {
                StatePress x = new StatePress();
                Checks.feed(x, row);
                x.make(3);
                byte[] book = Checks.out(x);
                // Other distances than 1, 4, 8, which a frame would begin with.
                for (int i = 0; i < 3; i++) {
                    book[book.length - row.length - 12 + 4 * i] = (byte) (5 + 2 * i);
                }
                Checks.feed(x, book);
                CHECKS.due("learn", x.learn(), row.length);
                Checks.feed(x, row);
                x.rule(way, least);
                PlainPress plain = new PlainPress();
                plain.way = way;
                plain.least = least;
                byte[] want = plain.make(row, 5);
                CHECKS.due("make by a rule", x.make(5), want == null ? -1 : want.length);
                CHECKS.due("make by a rule", Checks.out(x), want == null ? book : want);
            }
        }
    }

    /** Up to 32 different symbols an order of 5 is enough. */
    private static void manyLengths() {
        for (int n = 30; n < 36; n++) {
            Random random = new Random(6);
            byte[] row = new byte[4000];
            int at = 0;
            for (; at < 600; at++) {
                row[at] = (byte) random.nextInt(250);
            }
            for (int i = 0; i < n; i++) {
                int length = i < 32 ? i + 3 : 2 * i - 29;
                int from = i * 13;
                System.arraycopy(row, from, row, at, length);
                row[at + length] = (byte) (250 + i % 6);
                at += length + 1;
            }
            row = Arrays.copyOf(row, at);
            PlainPress plain = new PlainPress();
            int[] symbols = plain.go(row, 0, 8000, new int[] {1, 4, 8}).symbols(2);
            CHECKS.due("different symbols", Arrays.stream(symbols).distinct().count(), n);
            StatePress x = new StatePress();
            Checks.feed(x, row);
            byte[] want = plain.make(row, n);
            CHECKS.due(n + " different symbols", x.make(n), want.length);
            CHECKS.due(n + " different symbols", Checks.out(x), want);
        }
    }

    private static void random() {
        int[] answers = new int[2];
        for (int i = 0; i < 400; i++) {
            Random random = new Random(i);
            byte[] row = Checks.row(random, random.nextInt(i % 20 == 0 ? 8001 : 900));
            StatePress x = new StatePress();
            Checks.feed(x, row);
            byte[] want = new PlainPress().make(row, i);
            answers[want == null ? 0 : 1]++;
            CHECKS.due("make of row " + i, x.make(i), want == null ? -1 : want.length);
            CHECKS.due("make of row " + i, Checks.out(x), want == null ? new byte[0] : want);
        }
        CHECKS.due("both answers come", answers[0] > 10 && answers[1] > 10, true);
    }
}
