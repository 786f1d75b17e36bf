import java.util.Arrays;
import java.util.List;

/** The boundary cases of promise 6, the rule, and of the MATCHES that it says. */
public final class EdgesRuleTest {
    private static final Checks CHECKS = new Checks();
    /** A run makes it sure that the block is packed; its own copy is always the last one. */
    private static final String TAIL = "~".repeat(60);

    public static void main(String[] args) {
        refused();
        taken();
        firstPlace();
        leasts();
        windows();
        windowOfOnesOwn();
        runsOn();
        endOfData();
        nearest();
        eightOrMore();
        longest();
        waiting();
        going();
        history();
        CHECKS.end();
    }

    private static void refused() {
        CHECKS.says(6, "False, refused, when way is not 0 .. 3 or least not 3 .. 8.");
        int[] numbers = {Integer.MIN_VALUE, -1, 0, 1, 2, 3, 4, 5, 7, 8, 9, 10, 255, 256, 259, Integer.MAX_VALUE};
        for (int way : numbers) {
            for (int least : numbers) {
                boolean taken = way >= 0 && way <= 3 && least >= 3 && least <= 8;
                Twins twins = Twins.used();
                String call = "rule(" + way + ", " + least + ")";
                CHECKS.due(call, twins.x.rule(way, least), taken);
                if (!taken) {
                    twins.alike(CHECKS, "after " + call);
                }
            }
        }
    }

    /** Each rule that is taken holds from then on, until another one is. */
    private static void taken() {
        CHECKS.says(6, "The RULE.");
        Twins twins = Twins.used();
        twins.x.press(8, 3, 8000);
        byte[] before = Checks.out(twins.x);
        for (int way = 0; way <= 3; way++) {
            for (int least = 3; least <= 8; least++) {
                CHECKS.due("rule(" + way + ", " + least + ")", twins.x.rule(way, least), true);
                CHECKS.due("rule(4, 3)", twins.x.rule(4, 3), false);
                CHECKS.due("rule(0, 9)", twins.x.rule(0, 9), false);
                twins.x.press(8, 3, 8000);
                byte[] after = Checks.out(twins.x);
                CHECKS.due("rule(" + way + ", " + least + ") has another frame", Arrays.equals(after, before), way == 3 && least == 4);
                StatePress fresh = new StatePress();
                fresh.rule(way, least);
                Checks.feed(fresh, Twins.ROW);
                PlainPress plain = new PlainPress();
                plain.way = way;
                plain.least = least;
                fresh.press(0, 0, 1024);
                CHECKS.due("rule(" + way + ", " + least + ")", Checks.out(fresh), plain.press(Twins.ROW, 0, 0, 1024));
            }
        }
    }

    /** Literal length, distance and match length of each sequence, without that of the tail. */
    private static void finds(String name, int way, int least, String text, Integer... want) {
        StatePress x = new StatePress();
        x.rule(way, least);
        finds(name, x, Checks.text(text + TAIL), new PlainPress.Book(), 1, want);
    }

    private static void finds(String name, StatePress x, byte[] row, PlainPress.Book book, int tails, Integer... want) {
        Checks.feed(x, row);
        CHECKS.due(name + ": press", x.press(0, 3, 8000) > 0, true);
        List<Integer> copies = FrameReader.copies(Checks.out(x), book);
        CHECKS.due(name + ": packed", x.about(2), 1);
        List<Integer> most = copies.subList(0, Math.max(0, copies.size() - 3 * tails));
        CHECKS.due(name + " finds " + most, most.equals(List.of(want)), true);
    }

    private static void firstPlace() {
        CHECKS.says(6, "A MATCH at place p is a place q below p,");
        finds("nothing stands before the first byte", 2, 3, "aaaab", 1, 1, 3);
        finds("nothing stands before the first byte", 0, 3, "aaaab", 1, 1, 3);
        finds("four of the same", 2, 4, "aaaaab", 1, 1, 4);
        finds("three of the same, but for the first", 2, 4, "aaaab");
    }

    private static void leasts() {
        CHECKS.says(6, "such that at least LEAST bytes from p on, one after the other, are those from q on");
        for (int way = 0; way <= 3; way++) {
            for (int least = 3; least <= 8; least++) {
                for (int n = least - 1; n <= least + 1; n++) {
                    String start = "abcdefghijklmnop".substring(0, n);
                    String name = "way " + way + ", LEAST " + least + ", " + n + " bytes";
                    if (n < least) {
                        finds(name, way, least, start + "0123" + start);
                    } else {
                        finds(name, way, least, start + "0123" + start, n + 4, n + 4, n);
                    }
                }
            }
        }
    }

    private static void windows() {
        CHECKS.says(6, "p - q at most the WINDOW,");
        for (int e = 0; e <= 2; e++) {
            int window = 1024 << e;
            for (int d = window - 1; d <= window + 1; d++) {
                byte[] row = new Weaver(d).sequence(d, d, 60).row();
                for (int way = 0; way <= 3; way++) {
                    StatePress x = new StatePress();
                    x.rule(way, 3);
                    Checks.feed(x, row);
                    String name = "way " + way + ", window " + window + ", distance " + d;
                    x.press(2, e, window);
                    CHECKS.due(name, copied(x, new PlainPress.Book()), d <= window ? 1 : 0);
                    x.press(2, e, 100);
                    CHECKS.due(name + ", rows of 100", FrameReader.copies(Checks.out(x), new PlainPress.Book()).contains(d), d <= window);
                    x.press(2, e + 1, 100);
                    CHECKS.due(name + ", twice the window", FrameReader.copies(Checks.out(x), new PlainPress.Book()).contains(d), true);
                }
            }
        }
        farthestWindow();
    }

    private static int copied(StatePress x, PlainPress.Book book) {
        return FrameReader.copies(Checks.out(x), book).size() / 3;
    }

    /** With e 3 and more the window is more than IN can have; with a dictionary there are 16,000 bytes. */
    private static void farthestWindow() {
        for (int e = 3; e <= 4; e++) {
            for (int d = 8190; d <= 8194; d++) {
                byte[] content = new Weaver(d).literals(8000).row();
                byte[] all = new Weaver(d + 7).behind(content).literals(d - 8000 + 50).row();
                int p = all.length;
                byte[] row = new byte[p - 8000 + 40];
                System.arraycopy(all, 8000, row, 0, p - 8000);
                System.arraycopy(all, p - d, row, p - 8000, 40);
                StatePress x = new StatePress();
                Checks.feed(x, content);
                x.learn();
                Checks.feed(x, row);
                x.press(0, e, 8000);
                CHECKS.due("window " + (1024 << e) + ", distance " + d, copied(x, FrameReader.book(content)),
                    d <= 1024 << e ? 1 : 0);
            }
        }
    }

    /** SINGLE: the window is the SIZE, which a copy of the dictionary can go beyond. */
    private static void windowOfOnesOwn() {
        CHECKS.says(6, "p - q at most the WINDOW,");
        byte[] content = new Weaver(1).literals(300).row();
        int size = 120;
        for (int d = size - 1; d <= size + 1; d++) {
            byte[] row = Arrays.copyOf(Arrays.copyOfRange(content, 300 - d, 300 - d + 60), size);
            byte[] rest = new Weaver(2).behind(content).literals(60).rowFrom(300);
            System.arraycopy(rest, 0, row, 60, 60);
            StatePress x = new StatePress();
            Checks.feed(x, content);
            x.learn();
            Checks.feed(x, row);
            x.press(4, 0, 8000);
            CHECKS.due("SIZE 120, distance " + d, copied(x, FrameReader.book(content)), d <= size ? 1 : 0);
            x.press(0, 0, 1024);
            CHECKS.due("WINDOW 1024, distance " + d, copied(x, FrameReader.book(content)), 1);
        }
    }

    private static void runsOn() {
        CHECKS.says(6, "(which may run on into p's); its LENGTH is how many,");
        for (int way = 0; way <= 3; way++) {
            finds("a run, way " + way, way, 3, "0aaaaaaaaa1", 2, 1, 8);
            finds("by turns, way " + way, way, 3, "0ababababa1", 3, 2, 7);
            finds("threes, way " + way, way, 3, "0abcabcabcab1", 4, 3, 8);
        }
        for (int n : new int[] {2, 3, 4}) {
            Integer[] want = n < 3 ? new Integer[0] : new Integer[] {2, 1, n};
            finds("a run of one and " + n, 2, 3, "0a" + "a".repeat(n) + "1", want);
        }
    }

    /** A match goes to the end of the row at most, and begins LEAST before it at the latest. */
    private static void endOfData() {
        CHECKS.says(6, "DATA is a row of n bytes, the first h of them HISTORY.");
        for (int cut = 62; cut <= 80; cut++) {
            StatePress x = new StatePress();
            byte[] row = new Weaver(5).literals(40).copy(30, 20).literals(4).copy(60, 20).literals(40).copy(20, 20).row();
            Checks.feed(x, row);
            x.press(0, 0, cut);
            CHECKS.due("rows of " + cut, Checks.out(x), new PlainPress().press(row, 0, 0, cut));
            CHECKS.due("rows of " + cut, FrameReader.content(Checks.out(x), new PlainPress.Book()), row);
        }
        for (int left = 0; left <= 9; left++) {
            for (int least = 3; least <= 8; least++) {
                StatePress x = new StatePress();
                x.rule(2, least);
                byte[] row = new Weaver(9).literals(50).copy(45, 40).literals(6).copy(88, left).row();
                Checks.feed(x, row);
                x.press(0, 0, 1024);
                CHECKS.due("the last " + left + " bytes, LEAST " + least, copied(x, new PlainPress.Book()), left >= least ? 2 : 1);
            }
        }
    }

    private static void nearest() {
        CHECKS.says(6, "WAY 0: of all the nearest.");
        finds("the nearest is the shorter one", 0, 3, "abcdefgh0abc1abcdefgh", 9, 9, 3, 1, 4, 3, 0, 13, 5);
        finds("the nearest is too short", 0, 4, "abcdefgh0abc1abcdefgh", 13, 13, 8);
    }

    private static void eightOrMore() {
        CHECKS.says(6, "WAY 1: the nearest of those of 8 bytes or more, else as way 0.");
        // The last part stands as a whole 22 back, its first three bytes stand 4 back.
        finds("nine bytes farther off", 1, 3, "abcdefghi0123456789ABCabc_abcdefghi", 22, 22, 3, 1, 26, 9);
        finds("eight bytes farther off", 1, 3, "abcdefgh0123456789ABCDabc_abcdefgh", 22, 22, 3, 1, 26, 8);
        finds("seven bytes farther off", 1, 3, "abcdefg0123456789ABCDEabc_abcdefg", 22, 22, 3, 1, 4, 3, 0, 26, 4);
        finds("nine and eight: the nearest", 1, 3, "abcdefghi0123abcdefgh!abcdefghi", 13, 13, 8, 1, 9, 8);
        finds("eight, and nine nearer", 1, 3, "abcdefgh!0123abcdefghi?abcdefghi", 13, 13, 8, 2, 10, 9);
        finds("none of eight: the nearest, as way 0", 1, 3, "abcdef0abcd1abc2abcdef", 7, 7, 4, 1, 5, 3, 1, 4, 3, 0, 16, 3);
        finds("LEAST 8", 1, 8, "abcdefghij0abcdefgh1abcdefghij", 11, 11, 8, 1, 9, 8);
    }

    private static void longest() {
        CHECKS.says(6, "WAY 2: the longest, of these the nearest.");
        finds("the longest is farther off", 2, 3, "abcde0abcd1abcde", 6, 6, 4, 1, 11, 5);
        finds("as long: the nearest", 2, 3, "abcd0abcd1abcd", 5, 5, 4, 1, 5, 4);
        finds("as long thrice: the nearest", 2, 3, "abcd0abcd1abcd2abcd", 5, 5, 4, 1, 5, 4, 1, 5, 4);
        finds("longer by one: the farther one", 2, 3, "abcdefghi0abcdefgh1abcdefghi", 10, 10, 8, 1, 19, 9);
    }

    private static void waiting() {
        CHECKS.says(6, "WAY 3: as way 2; but when the longest at p + 1 is longer than that at p, there is none at p.");
        finds("one longer one further on", 3, 3, "xyz0yzAB1xyzAB", 10, 6, 4);
        finds("one as long one further on", 3, 3, "xyz0yzA1xyzA", 8, 8, 3);
        finds("one shorter by one one further on", 3, 3, "xyzA0yzA1xyzA", 5, 4, 3, 1, 9, 4);
        finds("way 2 does not wait", 2, 3, "xyz0yzAB1xyzABcd", 9, 9, 3);
        finds("a longer one, and then a longer one still", 3, 3, "wxy0xyzA1yzABC2wxyzABC", 9, 4, 3, 5, 8, 5);
        finds("a longer one two further on alone", 3, 3, "wxyz0yzABCD1wxyzABCD", 12, 12, 4, 0, 9, 4);
        finds("none at p, but one at p + 1", 3, 3, "xyz0_xyz", 5, 5, 3);
        finds("LEAST counts at p + 1", 3, 4, "xyzw0yzwA1xyzwA", 10, 10, 4);
        finds("LEAST counts at p", 3, 4, "xyz0yzAB1xyzAB", 10, 6, 4);
        StatePress x = new StatePress();
        x.rule(3, 3);
        // Behind the last LEAST bytes of the row there is no p + 1 with a match.
        byte[] row = new Weaver(3).literals(40).copy(33, 30).literals(3).copy(70, 3).row();
        finds("the last three bytes", x, row, new PlainPress.Book(), 0, 40, 33, 30, 3, 70, 3);
    }

    private static void going() {
        CHECKS.says(6, "where there is no match, the byte is a LITERAL, and it goes on one further; else behind the match.");
        finds("a match right behind another", 2, 3, "abc0def1abcdef", 8, 8, 3, 0, 7, 3);
        finds("what begins within a match is not looked at", 2, 3, "abcd0cdefg1abcdefg", 11, 11, 4, 0, 8, 3);
        StatePress x = new StatePress();
        byte[] row = new Weaver(4).literals(40).copy(30, 30).row();
        finds("a match up to the end", x, row, new PlainPress.Book(), 0, 40, 30, 30);
        row = new Weaver(4).literals(40).copy(30, 30).literals(1).row();
        finds("a literal at the end", x, row, new PlainPress.Book(), 0, 40, 30, 30);
    }

    private static void history() {
        CHECKS.says(6, "GOING over the data from h on:");
        byte[] content = new Weaver(6).literals(200).copy(100, 50).row();
        StatePress x = new StatePress();
        Checks.feed(x, content);
        CHECKS.due("learn()", x.learn(), 250);
        PlainPress.Book book = FrameReader.book(content);
        byte[] last = Arrays.copyOfRange(content, 230, 250);
        finds("the end of the dictionary, once", x, last, book, 0, 0, 20, 20);
        byte[] twice = PlainPress.join(last, last);
        finds("the end of the dictionary, twice", x, twice, book, 0, 0, 20, 40);
        byte[] first = Arrays.copyOf(content, 40);
        finds("the beginning of the dictionary", x, first, book, 0, 0, 250, 40);
        // The bytes at 100 .. 150 stand at 200 .. 250 once more, which is nearer.
        finds("what is there twice", x, Arrays.copyOfRange(content, 100, 150), book, 0, 0, 50, 50);
        finds("over the dictionary's end", x, PlainPress.join(Arrays.copyOfRange(content, 245, 250), Arrays.copyOfRange(content, 0, 40)),
            book, 0, 0, 5, 5, 0, 255, 40);
    }
}
