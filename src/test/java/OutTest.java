/** Promises 11 to 13: about, size, byteAt. */
public final class OutTest {
    private static final Checks CHECKS = new Checks();

    public static void main(String[] args) {
        StatePress x = new StatePress();
        int[] none = {-1, 12, 13, Integer.MAX_VALUE, Integer.MIN_VALUE};
        for (int what : none) {
            CHECKS.due("about(" + what + ")", x.about(what), -1);
        }
        kinds(x);
        bytes(x);
        modes();
        CHECKS.end();
    }

    private static void abouts(String call, StatePress x, int... want) {
        for (int what = 0; what < 12; what++) {
            CHECKS.due(call + " about(" + what + ")", x.about(what), want[what]);
        }
    }

    private static void kinds(StatePress x) {
        // Rows of 30: all the same; no copies; a copy of what was before.
        Checks.feed(x, Checks.text("aaaaaaaaaaaaaaaaaaaaaaaaaaaaaaABCDEFGHIJKLMNOPQRSTUVWXYZ0123"
            + "ABCDEFGHIJKLMNOPQRSTUVWXYZ0123"));
        CHECKS.due("press", x.press(0, 0, 30), 6 + 4 + 33 + 9);
        abouts("three kinds", x, 1, 1, 1, 1, 1, 0, 0, 0, 3, 0, 0, 0);
        CHECKS.due("make() that is not refused", x.make(5) > 0, true);
        abouts("make() does not count", x, 1, 1, 1, 1, 1, 0, 0, 0, 3, 0, 0, 0);
        CHECKS.due("press that is refused", x.press(0, 0, 0), -1);
        abouts("a refused press() does not count", x, 1, 1, 1, 1, 1, 0, 0, 0, 3, 0, 0, 0);
        x.clear();
        x.press(0, 0, 1);
        abouts("an empty IN", x, 1, 0, 0, 0, 0, 0, 0, 0, 0, 0, 0, 0);
    }

    private static void bytes(StatePress x) {
        CHECKS.due("size()", x.size(), 9);
        byte[] want = Checks.bytes(40, 181, 47, 253, 0, 0, 1, 0, 0);
        for (int k = 0; k < 9; k++) {
            CHECKS.due("byteAt(" + k + ")", x.byteAt(k), want[k] & 255);
        }
        int[] none = {-1, 9, 10, 11999, 12000, Integer.MAX_VALUE, Integer.MIN_VALUE};
        for (int k : none) {
            CHECKS.due("byteAt(" + k + ")", x.byteAt(k), -1);
        }
        CHECKS.due("press that is refused", x.press(-1, 0, 1), -1);
        CHECKS.due("size() then", x.size(), 9);
        CHECKS.due("make() that is refused", x.make(1), -1);
        CHECKS.due("OUT then", Checks.out(x), want);
    }

    /** The same text in two rows: what the first one has told is good for the second one. */
    private static void modes() {
        StatePress x = new StatePress();
        StringBuilder text = new StringBuilder();
        for (int i = 0; i < 120; i++) {
            text.append((char) ('a' + i * i % 7)).append((char) ('a' + i * 5 % 11)).append("...".substring(i % 3));
        }
        byte[] row = Checks.text(text.toString());
        Checks.feed(x, PlainPress.join(row, row));
        PlainPress plain = new PlainPress();
        plain.way = 0;
        plain.least = 8;
        x.rule(0, 8);
        for (int cut = 20; cut < 400; cut += 20) {
            byte[] want = plain.press(PlainPress.join(row, row), 0, 0, cut);
            CHECKS.due("press", x.press(0, 0, cut), want.length);
            abouts("cut " + cut, x, plain.abouts);
        }
    }
}
