import java.util.List;

/** Promise 6: the rule, its ways seen by what they copy. */
public final class RuleTest {
    private static final Checks CHECKS = new Checks();
    private static final String TAIL = "~".repeat(60);

    public static void main(String[] args) {
        int[][] bad = {{-1, 3}, {4, 3}, {0, 2}, {0, 9}, {3, 2}, {3, 9}, {Integer.MAX_VALUE, 3}, {Integer.MIN_VALUE, 3},
            {0, Integer.MAX_VALUE}, {0, Integer.MIN_VALUE}, {-1, 9}};
        for (int[] pair : bad) {
            CHECKS.due("rule(" + pair[0] + ", " + pair[1] + ")", new StatePress().rule(pair[0], pair[1]), false);
        }
        for (int way = 0; way <= 3; way++) {
            for (int least = 3; least <= 8; least++) {
                CHECKS.due("rule", new StatePress().rule(way, least), true);
            }
        }
        refusedStays();
        ways();
        ahead();
        leasts();
        windows();
        CHECKS.end();
    }

    private static byte[] pressed(StatePress x, byte[] row) {
        Checks.feed(x, row);
        x.press(0, 0, 1024);
        return Checks.out(x);
    }

    private static void refusedStays() {
        byte[] row = Checks.text("abcdefghij-abcde-abcdefgh-abc-abcdefghij-abcd-abcdefg-abc");
        for (int way = 0; way <= 3; way++) {
            StatePress x = new StatePress();
            x.rule(way, 4);
            byte[] want = pressed(x, row);
            x.rule(-1, 3);
            x.rule((way + 1) % 4, 9);
            CHECKS.due("a refused rule", pressed(x, row), want);
            x.press(0, 0, 1024);
            x.clear();
            x.forget();
            CHECKS.due("the rule stays", pressed(x, row), want);
        }
    }

    /** Which sequences the rule finds; the tail makes it sure that the block is packed. */
    private static void finds(String name, int way, int least, String text, Integer... want) {
        StatePress x = new StatePress();
        x.rule(way, least);
        byte[] frame = pressed(x, Checks.text(text + TAIL));
        CHECKS.due(name, FrameReader.copies(frame, new PlainPress.Book()).equals(List.of(want)), true);
    }

    private static void ways() {
        // 5 bytes of the last part stand 9 back, 10 stand 23 back, all 12 stand 39 back.
        String text = "abcdefghijkl0123abcdefghij4567abcde89!?abcdefghijkl";
        finds("way 0", 0, 3, text, 16, 16, 10, 4, 14, 5, 4, 9, 5, 0, 23, 5, 3, 1, 59);
        finds("way 1", 1, 3, text, 16, 16, 10, 4, 14, 5, 4, 23, 10, 3, 1, 59);
        finds("way 2", 2, 3, text, 16, 16, 10, 4, 14, 5, 4, 39, 12, 1, 1, 59);
        finds("way 3", 3, 3, text, 16, 16, 10, 4, 14, 5, 4, 39, 12, 1, 1, 59);
        finds("of the longest the nearest", 2, 3, "abcd0abcd1abcd", 5, 5, 4, 1, 5, 4, 1, 1, 59);
        finds("a match that runs on into its own", 2, 3, "abcabcabcab0", 3, 3, 8, 2, 1, 59);
    }

    private static void ahead() {
        // At the second x the longest has 3, one further on it has 6.
        String text = "xyz0123yzABCD4567xyzABCD";
        finds("way 2 takes it at once", 2, 3, text, 17, 17, 3, 0, 11, 4, 1, 1, 59);
        finds("way 3 waits", 3, 3, text, 18, 11, 6, 1, 1, 59);
        finds("way 3 does not wait for one as long", 3, 3, "xyz0123yzA4567xyzA", 14, 14, 3, 2, 1, 59);
    }

    private static void leasts() {
        for (int least = 3; least <= 8; least++) {
            String start = "abcdefghijklmnop".substring(0, least);
            String text = start + "0123" + start;
            finds("a match of LEAST " + least, 2, least, text, least + 4, least + 4, least, 1, 1, 59);
            if (least < 8) {
                finds("a match of less than LEAST", 2, least + 1, text, 2 * least + 5, 1, 59);
            }
        }
    }

    /** A copy from just the window back, and from one further. */
    private static void windows() {
        for (int more = 0; more < 2; more++) {
            StringBuilder text = new StringBuilder("ABCDEFGHIJKLMNOPQRSTUVWX");
            for (int i = 0; text.length() < 1024 + more; i++) {
                text.append((char) (128 + i % 128)).append((char) (128 + i / 128));
            }
            text.setLength(1024 + more);
            text.append("ABCDEFGHIJKLMNOPQRSTUVWX");
            StatePress x = new StatePress();
            x.rule(2, 8);
            Checks.feed(x, Checks.text(text.toString()));
            x.press(0, 0, 1024);
            CHECKS.due("a distance of the window and " + more, x.about(3), more == 0 ? 1 : 0);
            byte[] out = Checks.out(x);
            PlainPress plain = new PlainPress();
            plain.least = 8;
            CHECKS.due("the window and " + more, out, plain.press(Checks.text(text.toString()), 0, 0, 1024));
        }
    }
}
