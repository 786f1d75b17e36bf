/** Promises 1 to 5: a new object, write, again, clear, turn. */
public final class InTest {
    private static final Checks CHECKS = new Checks();

    public static void main(String[] args) {
        newObject();
        write();
        again();
        clear();
        turn();
        CHECKS.end();
    }

    private static void newObject() {
        StatePress x = new StatePress();
        CHECKS.due("size() of a new object", x.size(), 0);
        CHECKS.due("byteAt(0) of a new object", x.byteAt(0), -1);
        for (int what = 0; what < 12; what++) {
            CHECKS.due("about() of a new object", x.about(what), 0);
        }
        CHECKS.due("again(1, 1) of a new object", x.again(1, 1), false);
        CHECKS.due("IN of a new object", Checks.in(x), new byte[0]);
        CHECKS.due("learn() of a new object", x.learn(), 0);
        // The rule at first is way 2, LEAST 3.
        byte[] row = Checks.text("abcXabcdefYabcdeZZabc, abcd, abcde, abcdef");
        StatePress y = new StatePress();
        y.rule(2, 3);
        Checks.feed(x, row);
        Checks.feed(y, row);
        CHECKS.due("the first rule", x.press(0, 0, 1024), y.press(0, 0, 1024));
        CHECKS.due("the first rule", Checks.out(x), Checks.out(y));
    }

    private static void write() {
        StatePress x = new StatePress();
        long eight = 0x0180FF7F00C3E2A5L;
        for (int n = 1; n <= 8; n++) {
            CHECKS.due("write n " + n, x.write(eight, n), true);
        }
        int[] bad = {0, -1, 9, Integer.MAX_VALUE, Integer.MIN_VALUE};
        for (int n : bad) {
            CHECKS.due("write n " + n, x.write(eight, n), false);
        }
        byte[] want = new byte[0];
        byte[] all = Checks.bytes(0x01, 0x80, 0xFF, 0x7F, 0x00, 0xC3, 0xE2, 0xA5);
        for (int n = 1; n <= 8; n++) {
            want = PlainPress.join(want, java.util.Arrays.copyOf(all, n));
        }
        CHECKS.due("what was written", Checks.in(x), want);
        x.clear();
        for (int i = 0; i < 999; i++) {
            x.write(i, 8);
        }
        CHECKS.due("write up to 7,999", x.write(1, 7), true);
        CHECKS.due("write beyond 8,000", x.write(1, 2), false);
        CHECKS.due("write up to 8,000", x.write(1L << 56, 1), true);
        CHECKS.due("write beyond 8,000", x.write(1, 1), false);
        byte[] in = Checks.in(x);
        CHECKS.due("a full IN", in.length, 8000);
        CHECKS.due("a full IN's end", in[7999], 1);
    }

    private static void again() {
        StatePress x = new StatePress();
        Checks.feed(x, Checks.text("xabc"));
        CHECKS.due("again(3, 2)", x.again(3, 2), true);
        CHECKS.due("again(3, 2)", Checks.in(x), Checks.text("xabcabcabc"));
        CHECKS.due("again(10, 0)", x.again(10, 0), true);
        CHECKS.due("again(1, 3)", x.again(1, 3), true);
        CHECKS.due("again(4, 1)", x.again(4, 1), true);
        CHECKS.due("again", Checks.in(x), Checks.text("xabcabcabcccccccc"));
        int[][] bad = {{0, 1}, {-1, 1}, {18, 1}, {1, -1}, {17, 470}, {1, 7984}, {Integer.MIN_VALUE, 1},
            {Integer.MAX_VALUE, 1}, {16, 0x10000001}, {16, Integer.MAX_VALUE}, {1, Integer.MIN_VALUE}, {18, 0}, {0, 0}};
        for (int[] pair : bad) {
            CHECKS.due("again(" + pair[0] + ", " + pair[1] + ")", x.again(pair[0], pair[1]), false);
        }
        CHECKS.due("again that was refused", Checks.in(x), Checks.text("xabcabcabcccccccc"));
        CHECKS.due("again up to 8,000", x.again(1, 7983), true);
        CHECKS.due("again beyond 8,000", x.again(1, 1), false);
        CHECKS.due("again of nothing when IN is full", x.again(8000, 0), true);
        CHECKS.due("again up to 8,000", Checks.in(x).length, 8000);
    }

    private static void clear() {
        StatePress x = new StatePress();
        Checks.feed(x, Checks.text("abcdefgh"));
        x.press(0, 0, 1024);
        byte[] out = Checks.out(x);
        x.clear();
        CHECKS.due("OUT after clear()", Checks.out(x), out);
        CHECKS.due("again after clear()", x.again(1, 1), false);
        CHECKS.due("IN after clear()", Checks.in(x), new byte[0]);
        x.clear();
        CHECKS.due("write after clear()", x.write(-1, 1), true);
        CHECKS.due("IN then", Checks.in(x), Checks.bytes(255));
    }

    private static void turn() {
        StatePress x = new StatePress();
        Checks.feed(x, Checks.text("abcdefgh"));
        CHECKS.due("turn() with an empty OUT", x.turn(), true);
        CHECKS.due("IN then", x.again(1, 1), false);
        Checks.feed(x, Checks.text("abcdefgh"));
        x.press(0, 0, 1024);
        byte[] out = Checks.out(x);
        CHECKS.due("turn()", x.turn(), true);
        CHECKS.due("OUT after turn()", Checks.out(x), out);
        CHECKS.due("IN after turn()", Checks.in(x), out);
        turnAtItsLimit();
    }

    /** A frame without a size has 6 bytes, and each row of two bytes that are not the same takes 5 more. */
    private static void turnAtItsLimit() {
        StatePress x = new StatePress();
        Checks.feed(x, Checks.text("ab"));
        x.again(2, 1597);
        CHECKS.due("a frame of 8,000 less 4", x.press(0, 0, 2), 7996);
        x.write(0, 1);
        CHECKS.due("a frame of 8,000", x.press(0, 0, 2), 8000);
        CHECKS.due("turn() of 8,000", x.turn(), true);
        byte[] out = Checks.out(x);
        CHECKS.due("IN then", Checks.in(x), out);
        Checks.feed(x, Checks.text("ab"));
        x.again(2, 1598);
        CHECKS.due("a frame of 8,001", x.press(0, 0, 2), 8001);
        CHECKS.due("turn() of 8,001", x.turn(), false);
        CHECKS.due("IN then", Checks.in(x).length, 3198);
    }
}
