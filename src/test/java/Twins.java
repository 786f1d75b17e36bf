/** Two objects with the same calls behind them: what a call on the first one has changed is seen by the second one. */
final class Twins {
    final StatePress x = new StatePress();
    final StatePress y = new StatePress();

    /** IN of those that are used: another rule, or another dictionary, has another frame for it. */
    static final byte[] ROW = Checks.text("abcdefgh 0abcdefgh 1bcdefghij abcd2 cdefghijk abc3 abcdefghijklm abcdefgh 4 hij"
        + "klmno bcdefghij abcdefgh the content! no content, content! 5abcd 6abcde 7abcdef 8abcdefg 9 fghijkl xyzabc 0yzabcdefg xyzabcd");

    /** All that can be there is there, and nothing is as at first: the rule, a formed dictionary, IN, OUT and what about() tells. */
    static Twins used() {
        Twins twins = new Twins();
        twins.feed(Checks.text("xabcd yabcd zabcd content! and the content!"));
        twins.both("make", twins.x.make(0x01020304), twins.y.make(0x01020304));
        twins.both("turn", twins.x.turn() ? 1 : -1, twins.y.turn() ? 1 : -1);
        twins.both("learn", twins.x.learn(), twins.y.learn());
        twins.both("rule", twins.x.rule(3, 4) ? 1 : -1, twins.y.rule(3, 4) ? 1 : -1);
        twins.feed(Checks.text("aaaaaaaaaaABCDEFGHIJabcdefghij, abcdefghij"));
        twins.both("press", twins.x.press(9, 0, 10), twins.y.press(9, 0, 10));
        twins.feed(ROW);
        return twins;
    }

    private void both(String call, int one, int other) {
        if (one < 0 || one != other) {
            throw new IllegalStateException(call + " answered " + one + " and " + other);
        }
    }

    /** IN of both becomes this row. */
    void feed(byte[] row) {
        Checks.feed(x, row);
        Checks.feed(y, row);
    }

    /** IN of the first one, which has no dictionary then. */
    byte[] in() {
        x.forget();
        return Checks.in(x);
    }

    /** Whatever can be seen is the same on both: OUT and about(), then IN, the rule and the dictionary by new frames. */
    void alike(Checks checks, String name) {
        outAlike(checks, name);
        int[] flags = {15, 8};
        for (int flag : flags) {
            x.press(flag, 3, 8000);
            y.press(flag, 3, 8000);
            outAlike(checks, name + ", then press,");
        }
        checks.due(name + ", then make", x.make(5), y.make(5));
        outAlike(checks, name + ", then make,");
    }

    private void outAlike(Checks checks, String name) {
        checks.due(name + " OUT", Checks.out(x), Checks.out(y));
        for (int what = 0; what < 12; what++) {
            checks.due(name + " about(" + what + ")", x.about(what), y.about(what));
        }
    }
}
