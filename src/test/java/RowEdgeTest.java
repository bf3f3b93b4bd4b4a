import java.util.NoSuchElementException;

/** The edges of rounds, of rules along rows and rings, and of nights by draws; promises 39 to 42. */
public final class RowEdgeTest {
    private static final Class<IllegalArgumentException> ARGUMENT = IllegalArgumentException.class;
    private static final Class<NoSuchElementException> ELEMENT = NoSuchElementException.class;
    private static final int NONE = LitNextDoor.NONE;
    private static final int ALL_HOURS = 0xFFFFFF;

    private RowEdgeTest() {
    }

    public static void main(String[] args) {
        round();
        roundOrder();
        roundLongest();
        roundNone();
        roundRefused();
        beside();
        rule();
        ruleAnswers();
        ruleRefused();
        look();
        lookOrder();
        lookRefused();
        nightHours();
        nightFails();
        nightDraws();
        nightWraps();
        nightAnswers();
        nightRefused();
        Check.end("RowEdgeTest");
    }

    // ---- rounds

    private static void path(LitNextDoor x, int room, int... due) {
        Check.due("steps from " + room, x.round(room, NONE), due.length - 1);
        for (int what = 0; what < due.length; what++) {
            Check.due("behind " + what + " steps", x.round(room, what), due[what]);
        }
        Check.due("not so many", x.round(room, due.length), NONE);
        Check.due("not so many", x.round(room, Integer.MAX_VALUE), NONE);
    }

    private static String row(int n) {
        StringBuilder text = new StringBuilder("rooms " + n + ";");
        for (int i = 1; i < n; i++) {
            text.append("pane ").append(i - 1).append(" to ").append(i).append(" lets 1 both;");
        }
        return text.toString();
    }

    private static void round() {
        Check.sentence("A ROUND from a ROOM (at most 12 ROOMS): a walk by panes (whatever way they lead) from it back to it, "
            + "at each ROOM of which (the first one, too) one stays with a lamp: the fewest steps so that all ROOMS are LIT by those where one stays;");
        path(Check.built(row(2)), 0, 0, 1, 0);
        path(Check.built(row(2)), 1, 1, 0, 1);
        // The first room lights both others, and one of these lights it.
        path(Check.built(row(3)), 1, 1, 0, 1);
        path(Check.built(row(3)), 2, 2, 1, 2);
        // Against the only pane one goes, too, but it lights one way: 1 is never lit here.
        Check.due("one way", Check.built("rooms 2;pane 1 to 0 lets 1;").round(0, NONE), NONE);
        path(Check.built("rooms 3;pane 1 to 0 lets 1;pane 2 to 1 lets 1;pane 0 to 2 lets 1;"), 0, 0, 1, 2, 0);
        path(Check.built("rooms 3;pane 0 to 1 lets 1 both;pane 1 to 2 lets 1;"), 2, 2, 1, 0, 1, 2);
    }

    private static void roundOrder() {
        Check.sentence("of like ones the first, ROOM by ROOM.");
        path(Check.built(Probe.ring(4)), 1, 1, 0, 1);
        path(Check.built(Probe.ring(4)), 3, 3, 0, 3);
        path(Check.built(row(5)), 2, 2, 1, 2, 3, 2);
        StringBuilder down = new StringBuilder(row(12));
        int[] due = new int[19];
        for (int i = 0; i <= 5; i++) {
            due[i] = 6 - i;
            due[10 - i] = 6 - i;
        }
        for (int i = 0; i <= 4; i++) {
            due[10 + i] = 6 + i;
            due[18 - i] = 6 + i;
        }
        path(Check.built(down.toString()), 6, due);
    }

    /** In pairs that light each other, each pair lights only back: all twelve rooms of the row must be seen. */
    private static void roundLongest() {
        StringBuilder text = new StringBuilder("rooms 12;");
        for (int i = 0; i < 12; i += 2) {
            text.append("pane ").append(i).append(" to ").append(i + 1).append(" lets 1 both;");
            if (i > 0) {
                text.append("pane ").append(i).append(" to ").append(i - 1).append(" lets 1;");
            }
        }
        int[] due = new int[23];
        for (int i = 0; i < 12; i++) {
            due[i] = i;
            due[22 - i] = i;
        }
        path(Check.built(text.toString()), 0, due);
    }

    private static void roundNone() {
        Check.sentence("ROUND, what NONE: how many steps, else the ROOM behind so many steps (0: the first). NONE: there is none, not so many.");
        String[] none = {"rooms 1;", "rooms 2;", "rooms 12;", "rooms 2;pane 0 to 1 lets 1;", "rooms 4;pane 0 to 1 lets 1 both;pane 2 to 3 lets 1 both;"};
        for (String text : none) {
            LitNextDoor x = Check.built(text);
            for (int what = NONE; what < 4; what++) {
                Check.due("round of " + text, x.round(0, what), NONE);
            }
            Check.due("round of " + text, x.round(0, Integer.MAX_VALUE), NONE);
        }
        // One object is asked for houses of more and of fewer rooms in turn.
        LitNextDoor x = new LitNextDoor();
        for (int rooms : new int[] {2, 12, 3, 11, 2}) {
            Check.house(x, row(rooms));
            Check.due("a row of " + rooms, x.round(0, NONE), 2 * Math.max(1, rooms - 2));
            Check.due("a row of " + rooms, x.round(0, 1), 1);
        }
    }

    private static void roundRefused() {
        Check.sentence("IllegalArgumentException: more than 12 ROOMS, what below NONE.");
        LitNextDoor twelve = Check.built(Probe.ring(12));
        Check.due("12 rooms", twelve.round(11, NONE), 12);
        for (int what : new int[] {-2, -3, Integer.MIN_VALUE}) {
            Check.thrown("what " + what, ARGUMENT, () -> twelve.round(0, what));
            Check.thrown("no such room is told first", ELEMENT, () -> twelve.round(12, what));
        }
        for (int rooms = 13; rooms <= 16; rooms++) {
            LitNextDoor x = Check.built("rooms " + rooms + ";");
            int beyond = rooms;
            Check.thrown(rooms + " rooms", ARGUMENT, () -> x.round(0, NONE));
            Check.thrown(rooms + " rooms", ARGUMENT, () -> x.round(0, 0));
            Check.thrown("no such room is told first", ELEMENT, () -> x.round(beyond, NONE));
        }
    }

    // ---- rules

    private static void beside() {
        Check.sentence("A ROW of n (1 to 40) or a RING of n (3 to 40): room k is beside k less 1 and k and 1 (round a RING).");
        LitNextDoor x = new LitNextDoor();
        // lamps in 0 and 3: round the ring these are beside each other, along the row 0 is beside 1 only
        Check.due("a ring of four", x.rule(4, true, 4, 9), NONE);
        Check.due("a row of four", x.rule(4, false, 4, 9), 0);
        // lamps in 0 and 1, then 4 and 5, ..: in a ring of 40 the last is beside the first
        Check.due("a ring of 40", x.rule(40, true, 4, 3), NONE);
        Check.due("a row of 40", x.rule(40, false, 4, 3), 39);
        Check.due("a ring of 40, the other way", x.rule(40, true, 4, 12), NONE);
        Check.due("a row of 40, the other way", x.rule(40, false, 4, 12), 0);
        Check.due("a ring of three, one lamp", x.rule(3, true, 3, 1), 0);
        Check.due("a ring of three, another one", x.rule(3, true, 3, 2), 1);
        Check.due("a ring of three, the last", x.rule(3, true, 3, 4), 2);
        Check.due("a ring of three, two lamps", x.rule(3, true, 3, 5), NONE);
        Check.due("a row of one", x.rule(1, false, 1, 1), 0);
        Check.due("a row of two", x.rule(2, false, 1, 1), NONE);
        Check.due("a row of two, one lamp", x.rule(2, false, 2, 1), 0);
        Check.due("a row of two, the other lamp", x.rule(2, false, 2, 2), 1);
    }

    private static void rule() {
        Check.sentence("RULE of p (1 to 8) and bits: room k has a lamp, if bit (k modulo p) is 1.");
        LitNextDoor x = new LitNextDoor();
        for (int p = 1; p <= 8; p++) {
            for (int bit = 0; bit < p; bit++) {
                // One lamp in p rooms: the first of the others that isn't beside one of these.
                int due = p == 1 ? NONE : Model.rule(40, true, p, 1 << bit);
                Check.due("one of " + p, x.rule(40, true, p, 1 << bit), due);
                Check.due("one of " + p, x.rule(39, false, p, 1 << bit), Model.rule(39, false, p, 1 << bit));
            }
            Check.due("all of " + p, x.rule(40, false, p, (1 << p) - 1), NONE);
            Check.due("none of " + p, x.rule(40, true, p, 0), 0);
        }
        Check.due("every other one", x.rule(5, false, 2, 1), 0);
        Check.due("every other one", x.rule(5, false, 2, 2), 1);
        Check.due("bits behind the row's end", x.rule(2, false, 8, 252), 0);
    }

    private static void ruleAnswers() {
        Check.sentence("It HOLDS, if each room is beside one with a lamp.");
        LitNextDoor x = new LitNextDoor();
        Check.due("it holds", x.rule(8, false, 8, 0x66), NONE);
        Check.sentence("The first room of n in a ROW (or RING) that isn't beside one with a lamp by a RULE; NONE: it HOLDS.");
        Check.due("the first", x.rule(8, false, 8, 0), 0);
        Check.due("the last", x.rule(9, false, 8, 0x66), 8);
        Check.due("in the middle", x.rule(8, false, 8, 0x42), 1);
        Check.due("the last of 40", x.rule(40, false, 8, 0x33), 39);
        Check.due("round a ring it is lit", x.rule(40, true, 8, 0x33), NONE);
    }

    private static void ruleRefused() {
        Check.sentence("IllegalArgumentException: n, p, bits.");
        LitNextDoor x = new LitNextDoor();
        for (int n : new int[] {0, -1, 41, 64, 65, Integer.MIN_VALUE, Integer.MAX_VALUE}) {
            Check.thrown("a row of " + n, ARGUMENT, () -> x.rule(n, false, 1, 1));
            Check.thrown("a ring of " + n, ARGUMENT, () -> x.rule(n, true, 1, 1));
        }
        Check.thrown("a ring of one", ARGUMENT, () -> x.rule(1, true, 1, 1));
        Check.thrown("a ring of two", ARGUMENT, () -> x.rule(2, true, 1, 1));
        Check.due("a ring of three", x.rule(3, true, 1, 1), NONE);
        Check.due("a ring of 40", x.rule(40, true, 1, 1), NONE);
        Check.due("a row of 40", x.rule(40, false, 1, 1), NONE);
        for (int p : new int[] {0, -1, 9, 31, 32, 33, Integer.MIN_VALUE, Integer.MAX_VALUE}) {
            Check.thrown("p " + p, ARGUMENT, () -> x.rule(5, false, p, 0));
            Check.thrown("p " + p, ARGUMENT, () -> x.rule(5, true, p, 1));
        }
        for (int p = 1; p <= 8; p++) {
            int many = p;
            Check.due("the most bits of " + p, x.rule(5, false, p, (1 << p) - 1), NONE);
            for (int bits : new int[] {1 << p, (1 << p) + 1, -1, Integer.MIN_VALUE, Integer.MAX_VALUE}) {
                Check.thrown("bits " + bits + " of " + p, ARGUMENT, () -> x.rule(5, false, many, bits));
            }
        }
    }

    private static void looks(int n, boolean ring, int... due) {
        LitNextDoor x = new LitNextDoor();
        for (int what = 0; what < 3; what++) {
            Check.due((ring ? "a ring of " : "a row of ") + n + ", what " + what, x.look(n, ring, what), due[what]);
        }
    }

    private static void look() {
        Check.sentence("LOOK, what 0: how many lamps, 1: p, 2: bits; NONE: none HOLDS.");
        looks(1, false, NONE, NONE, NONE);
        looks(2, false, 2, 1, 1);
        looks(3, false, 2, 3, 3);
        looks(3, true, 2, 2, 1);
        looks(4, true, 2, 3, 1);
        looks(40, true, 20, 4, 3);
        for (int n = 1; n <= 40; n++) {
            looks(n, false, Model.look(n, false));
            if (n >= 3) {
                looks(n, true, Model.look(n, true));
            }
        }
    }

    private static void lookOrder() {
        Check.sentence("LOOK: of all p and bits that HOLD those with the fewest lamps in all, then the least p, then the least bits.");
        // A row of four: 0110 of p 3 gives lamps in 1 and 2, as p 4 does.
        looks(4, false, 2, 3, 6);
        // A row of eight takes four: 01100110, which p 4 tells, and p 8, too.
        looks(8, false, 4, 4, 6);
        // A ring of eight: 11001100 is the least of those of p 4.
        looks(8, true, 4, 4, 3);
    }

    private static void lookRefused() {
        Check.sentence("IllegalArgumentException: n, another what.");
        LitNextDoor x = new LitNextDoor();
        for (int n : new int[] {0, -1, 41, 64, 65, Integer.MIN_VALUE, Integer.MAX_VALUE}) {
            Check.thrown("a row of " + n, ARGUMENT, () -> x.look(n, false, 0));
            Check.thrown("a ring of " + n, ARGUMENT, () -> x.look(n, true, 0));
        }
        Check.thrown("a ring of one", ARGUMENT, () -> x.look(1, true, 0));
        Check.thrown("a ring of two", ARGUMENT, () -> x.look(2, true, 0));
        for (int what : LampEdgeTest.beyond(3)) {
            Check.thrown("what " + what, ARGUMENT, () -> x.look(5, false, what));
            Check.thrown("what " + what, ARGUMENT, () -> x.look(5, true, what));
        }
    }

    // ---- nights

    private static String wanting() {
        return "rooms 2;pane 0 to 1 lets 100 both;lamp bright 9 oil 0;want 0 least 9;want 1 least 9;";
    }

    private static void nightHours() {
        Check.sentence("A NIGHT by a SEED: in each HOUR 0 to 23, ROOM by ROOM, where a LAMP burns:");
        LitNextDoor x = Check.built(wanting());
        x.hang(0, 0, ALL_HOURS);
        Check.due("24 hours", x.night(7, 100, 2), 24);
        x.hang(1, 0, ALL_HOURS);
        Check.due("24 hours, two rooms", x.night(7, 100, 2), 48);
        x.hang(0, 0, 1);
        x.hang(1, 0, 1 << 23);
        Check.due("the first and the last hour", x.night(7, 100, 2), 2);
        // A lamp that doesn't burn takes no draw: so the last hour's lamp has the first draw.
        long draw = drawn(7, 1)[0];
        x.hang(0, NONE, 0);
        Check.due("its draw is enough", x.night(7, (int) draw, 2), 0);
        Check.due("its draw is below", x.night(7, (int) draw + 1, 2), 1);
        x.hang(0, 0, 0);
        Check.due("a lamp without hours takes none", x.night(7, (int) draw + 1, 2), 1);
    }

    /** The first draws modulo 100, worked out in longs. */
    private static long[] drawn(int seed, int many) {
        long x = seed & 0xFFFFFFFFL;
        long[] draws = new long[many];
        for (int i = 0; i < many; i++) {
            x = (1103515245L * x + 12345L) & 0xFFFFFFFFL;
            draws[i] = (x >> 16) % 100;
        }
        return draws;
    }

    private static void nightFails() {
        Check.sentence("DRAW modulo 100 below fail (0 to 100): it is out for that HOUR.");
        for (int seed : new int[] {0, 1, 7, 12345, -99}) {
            LitNextDoor x = Check.built(wanting());
            x.hang(0, 0, 1);
            long draw = drawn(seed, 1)[0];
            for (int fail = 0; fail <= 100; fail++) {
                Check.due("seed " + seed + ", fail " + fail, x.night(seed, fail, 2), draw < fail ? 1 : 0);
            }
        }
        LitNextDoor x = Check.built(wanting());
        x.hang(0, 0, ALL_HOURS);
        x.hang(1, 0, ALL_HOURS);
        Check.due("fail 0: none is out", x.night(5, 0, 2), 0);
        Check.due("fail 100: all are out", x.night(5, 100, 2), 48);
        Check.due("for that hour only: they hang as they did", x.dark(0), 0);
        Check.due("and once more", x.night(5, 0, 0), 0);
    }

    private static void nightDraws() {
        // Hour by hour, room 0 ahead of room 1.
        LitNextDoor x = Check.built(wanting());
        x.hang(0, 0, 7);
        x.hang(1, 0, 5);
        int[] ofRoom = {0, 1, 0, 0, 1};
        int[] ofHour = {0, 0, 1, 2, 2};
        for (int seed = -20; seed < 20; seed++) {
            long[] draws = drawn(seed, 5);
            for (int fail = 5; fail <= 95; fail += 15) {
                int[] left = {3, 1, 3};
                int out = 0;
                for (int i = 0; i < 5; i++) {
                    if (draws[i] < fail) {
                        left[ofHour[i]] &= ~(1 << ofRoom[i]);
                        out++;
                    }
                }
                // Each lamp lights the other room; in the other 21 hours both are dark.
                int dark = 42;
                int hours = 21;
                for (int set : left) {
                    dark += 2 - Integer.bitCount(set);
                    hours += set == 3 ? 0 : 1;
                }
                Check.due("dark by " + seed + ", " + fail, x.night(seed, fail, 0), dark);
                Check.due("hours by " + seed + ", " + fail, x.night(seed, fail, 1), hours);
                Check.due("out by " + seed + ", " + fail, x.night(seed, fail, 2), out);
            }
        }
    }

    private static void nightWraps() {
        Check.sentence("DRAW: x (an int, a seed at first) becomes 1103515245 x + 12345; it is x >>> 16.");
        LitNextDoor x = Check.built(wanting());
        x.hang(0, 0, ALL_HOURS);
        x.hang(1, 0, ALL_HOURS);
        int[] seeds = {0, 1, -1, 2, Integer.MAX_VALUE, Integer.MIN_VALUE, Integer.MIN_VALUE + 1, 1 << 30, 1103515245, -1103515245, -12345};
        boolean negative = false;
        for (int seed : seeds) {
            negative = negative || seed * 1103515245 + 12345 < 0;
            long[] draws = drawn(seed, 48);
            for (int fail = 1; fail <= 100; fail += 9) {
                int out = 0;
                for (long draw : draws) {
                    out += draw < fail ? 1 : 0;
                }
                Check.due("out by " + seed + ", fail " + fail, x.night(seed, fail, 2), out);
            }
        }
        Check.due("x came below 0", negative, true);
    }

    private static void nightAnswers() {
        Check.sentence("A NIGHT, what 0: how many ROOMS are DARK, over all HOURS together, 1: in how many HOURS some is, 2: how often a LAMP was out.");
        LitNextDoor x = Check.built("rooms 3;pane 0 to 1 lets 100;pane 0 to 2 lets 100;lamp bright 9 oil 0;want 1 least 9 from 0 to 0;"
            + "want 2 least 9 from 0 to 0;want 1 least 0 most 8 from 23 to 23;");
        int[][] due = {{2, 1, 0}, {1, 1, 0}, {2, 1, 2}};
        night(x, 100, due[0]);
        x.hang(0, 0, 1 | 1 << 23);
        // By day both are right, and in the last hour it is too bright: a lamp that is out leaves two dark and one right.
        night(x, 0, due[1]);
        night(x, 100, due[2]);
        LitNextDoor none = new LitNextDoor();
        night(none, 100, 0, 0, 0);
        LitNextDoor all = Check.built("rooms 2;want 0 least 1;want 1 least 1;");
        night(all, 0, 48, 24, 0);
    }

    private static void night(LitNextDoor x, int fail, int... due) {
        for (int what = 0; what < 3; what++) {
            Check.due("night of fail " + fail + ", what " + what, x.night(3, fail, what), due[what]);
        }
    }

    private static void nightRefused() {
        Check.sentence("IllegalArgumentException: fail, another what.");
        LitNextDoor x = Check.built(wanting());
        for (int fail : new int[] {-1, 101, Integer.MIN_VALUE, Integer.MAX_VALUE}) {
            Check.thrown("fail " + fail, ARGUMENT, () -> x.night(0, fail, 0));
            Check.thrown("fail " + fail, ARGUMENT, () -> x.night(0, fail, 3));
        }
        for (int what : LampEdgeTest.beyond(3)) {
            Check.thrown("what " + what, ARGUMENT, () -> x.night(0, 0, what));
            Check.thrown("what " + what, ARGUMENT, () -> x.night(0, 100, what));
        }
        Check.due("fail 0", x.night(0, 0, 2), 0);
        Check.due("fail 100", x.night(0, 100, 2), 0);
    }
}
