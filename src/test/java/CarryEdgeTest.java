import java.util.NoSuchElementException;

/** The edges of lamps that are carried and of what tenants are owed; promises 32 to 38. */
public final class CarryEdgeTest {
    private static final Class<IllegalArgumentException> ARGUMENT = IllegalArgumentException.class;
    private static final Class<IllegalStateException> STATE = IllegalStateException.class;
    private static final Class<IndexOutOfBoundsException> BOUNDS = IndexOutOfBoundsException.class;
    private static final Class<NoSuchElementException> ELEMENT = NoSuchElementException.class;
    private static final int NONE = LitNextDoor.NONE;
    private static final String ROW = "rooms 4;pane 0 to 1 lets 1 both;pane 1 to 2 lets 1 both;pane 2 to 3 lets 1 both;";
    private static final String PAIR = "rooms 2;pane 0 to 1 lets 1 both;";

    private CarryEdgeTest() {
    }

    public static void main(String[] args) {
        walk();
        walkNone();
        carriedLight();
        carriedBoth();
        carriedOrder();
        carriedAnew();
        carriedAnswers();
        carriedNever();
        carryRefused();
        cost();
        costOfAll();
        owedMeans();
        owedFraction();
        owedTooMany();
        latestFraction();
        sooner();
        soonerNumbers();
        soonerRefused();
        Check.end("CarryEdgeTest");
    }

    // ---- carried

    private static void walk() {
        Check.sentence("WALK of two ROOMS is the fewest panes between them, whatever way they lead (0 to itself; none without a way).");
        StringBuilder text = new StringBuilder("rooms 16;");
        for (int room = 0; room < 15; room++) {
            int from = room % 2 == 0 ? room : room + 1;
            text.append("pane ").append(from).append(" to ").append(2 * room + 1 - from).append(" lets 1;");
        }
        LitNextDoor x = Check.built(text.toString());
        for (int one = 0; one < 16; one++) {
            for (int other = 0; other < 16; other++) {
                Check.due("walk(" + one + ", " + other + ")", x.walk(one, other), Math.abs(one - other));
            }
        }
        Check.due("the shorter way round", Check.built(Probe.ring(16)).walk(0, 9), 7);
        Check.due("half round", Check.built(Probe.ring(16)).walk(15, 7), 8);
    }

    private static void walkNone() {
        Check.sentence("WALK; NONE: there is no way.");
        LitNextDoor x = Check.built("rooms 16;pane 0 to 1 lets 1;hole 0 to 2 lets 1 costs 0;");
        Check.due("to itself", x.walk(15, 15), 0);
        Check.due("no way", x.walk(0, 15), NONE);
        Check.due("no way", x.walk(15, 1), NONE);
        Check.due("a hole is no way", x.walk(0, 2), NONE);
        Check.due("against the pane", x.walk(1, 0), 1);
        for (int room : LampEdgeTest.beyond(16)) {
            Check.thrown("walk(" + room + ", 0)", ELEMENT, () -> x.walk(room, 0));
            Check.thrown("walk(0, " + room + ")", ELEMENT, () -> x.walk(0, room));
        }
        Check.thrown("no rooms", ELEMENT, () -> new LitNextDoor().walk(0, 0));
    }

    private static void carriedLight() {
        Check.sentence("CARRIED: n LAMPS (1, 2) from one HOUR to one not ahead: in each HOUR they stand in ROOMS (both may in one), "
            + "and LIGHT each ROOM that has a WANT of that HOUR with least above 0;");
        // How bright it is doesn't matter: there is no kind of lamp at all.
        LitNextDoor x = Check.built(ROW + "want 0 least 0 from 0 to 5;want 0 least 1 from 2 to 3;want 3 least 9999 from 3 to 4;want 1 least 0 most 0;");
        int[] one = {0, 0, 1, NONE, 2, 0};
        for (int hour = 0; hour < 6; hour++) {
            Check.due("one lamp at " + hour, x.carry(1, hour, hour, 0), one[hour]);
            Check.due("one lamp at " + hour, x.carry(1, hour, hour, NONE), one[hour] == NONE ? NONE : 0);
        }
        int[][] two = {{0, 0}, {0, 0}, {0, 1}, {1, 2}, {0, 2}, {0, 0}};
        for (int hour = 0; hour < 6; hour++) {
            Check.due("the first at " + hour, x.carry(2, hour, hour, 0), two[hour][0]);
            Check.due("the second at " + hour, x.carry(2, hour, hour, 1), two[hour][1]);
        }
    }

    private static void carriedBoth() {
        LitNextDoor x = Check.built(PAIR + "want 0 least 1 from 1 to 1;want 1 least 1 from 2 to 3;want 0 least 1 from 3 to 3;");
        Check.due("both in one", x.carry(2, 0, 0, 0), 0);
        Check.due("both in one", x.carry(2, 0, 0, 1), 0);
        Check.due("one in each", x.carry(2, 3, 3, 0), 0);
        Check.due("one in each", x.carry(2, 3, 3, 1), 1);
        Check.due("a lamp doesn't light its own room", x.carry(1, 1, 1, 0), 1);
        Check.due("from the first room alone", x.carry(1, 2, 2, 0), 0);
        Check.due("from the first room alone", x.carry(1, 2, 2, NONE), 0);
        Check.due("nor both", x.carry(1, 3, 3, 0), NONE);
    }

    private static void carriedOrder() {
        Check.sentence("from each HOUR to the next one each is carried:");
        Check.sentence("The least sum of WALKS; of like ones the first places in the first HOUR, then in the next ..: "
            + "the lesser first LAMP's ROOM, then the second one's.");
        LitNextDoor up = Check.built(ROW + "want 0 least 1 from 1 to 1;want 3 least 1 from 4 to 4;");
        places(up, 1, 1, 4, 1, 1, 1, 1, 2);
        LitNextDoor down = Check.built(ROW + "want 3 least 1 from 1 to 1;want 0 least 1 from 4 to 4;");
        places(down, 1, 1, 4, 1, 2, 1, 1, 1);
        places(down, 1, 0, 4, 1, 2, 2, 1, 1, 1);
        LitNextDoor far = Check.built("rooms 6;pane 0 to 1 lets 1;pane 2 to 1 lets 1;pane 3 to 2 lets 1;pane 3 to 4 lets 1;pane 4 to 5 lets 1;"
            + "want 1 least 1 from 0 to 0;want 5 least 1 from 1 to 1;want 1 least 1 from 2 to 2;");
        places(far, 1, 0, 2, 4, 2, 4, 2);
        places(far, 2, 0, 2, 0, 0, 4, 0, 4, 0, 4);
        // First 1 with 2 or with 4, then 1 with 3: the second lamp goes one pane either way.
        LitNextDoor either = Check.built("rooms 5;pane 0 to 1 lets 1 both;pane 1 to 2 lets 1 both;pane 2 to 3 lets 1 both;pane 3 to 4 lets 1 both;"
            + "want 0 least 1 from 0 to 1;want 3 least 1 from 0 to 0;want 4 least 1 from 1 to 1;");
        places(either, 2, 0, 1, 1, 1, 2, 1, 3);
        // In the hour between nothing is wanted: the first lamp waits where it is, the second goes down at once.
        LitNextDoor between = Check.built("rooms 4;pane 0 to 1 lets 1;pane 1 to 2 lets 1;pane 2 to 3 lets 1;want 2 least 1 from 0 to 0;"
            + "want 3 least 1 from 0 to 0;want 3 least 1 from 2 to 2;want 1 least 1 from 2 to 2;");
        places(between, 2, 0, 2, 1, 1, 2, 0, 2, 0, 2);
    }

    /** One object is asked for other hours, for another number of lamps and in another house in turn. */
    private static void carriedAnew() {
        LitNextDoor x = Check.built(ROW + "want 0 least 1 from 1 to 1;want 3 least 1 from 2 to 2;want 0 least 1 from 3 to 3;");
        for (int i = 0; i < 2; i++) {
            places(x, 1, 1, 2, 1, 1, 2);
            places(x, 1, 1, 3, 2, 1, 2, 1);
            places(x, 1, 2, 3, 1, 2, 1);
            places(x, 1, 0, 3, 2, 1, 1, 2, 1);
            places(x, 2, 0, 3, 0, 1, 2, 1, 2, 1, 2, 1, 2);
            places(x, 2, 1, 3, 0, 1, 2, 1, 2, 1, 2);
        }
        x.image(0);
        Check.house(x, "rooms 3;pane 0 to 1 lets 1;pane 1 to 2 lets 1;want 2 least 1 from 0 to 0;want 1 least 1 from 1 to 3;");
        places(x, 2, 1, 3, 0, 0, 0, 0, 0, 0, 0);
        places(x, 1, 0, 3, 1, 1, 0, 0, 0);
        x.restore(0);
        places(x, 1, 0, 3, 2, 1, 1, 2, 1);
        x.house(0);
        Check.due("no rooms", x.carry(1, 0, 3, NONE), NONE);
        x.restore(0);
        places(x, 1, 0, 3, 2, 1, 1, 2, 1);
        // The last of sixteen rooms lights the first, the first the last but one.
        Check.house(x, Probe.ring(16).replace(" both", "") + "want 0 least 1 from 0 to 0;want 15 least 1 from 1 to 1;want 1 least 1 from 2 to 2;");
        places(x, 1, 0, 2, 3, 15, 14, 0);
        places(x, 2, 0, 2, 1, 0, 15, 0, 14, 0, 14);
    }

    /** The sum, then place by place. */
    private static void places(LitNextDoor x, int n, int from, int to, int... due) {
        Check.due("the sum", x.carry(n, from, to, NONE), due[0]);
        for (int what = 0; what < due.length - 1; what++) {
            Check.due("place " + what + " of " + n, x.carry(n, from, to, what), due[1 + what]);
        }
    }

    private static void carriedAnswers() {
        Check.sentence("CARRIED, what NONE: the sum of WALKS, else n times HOURS behind the first one and the LAMP (0, 1): where it stands.");
        StringBuilder text = new StringBuilder("rooms 3;pane 0 to 1 lets 1;pane 1 to 2 lets 1 both;");
        for (int hour = 0; hour < 24; hour++) {
            text.append("want ").append(1 + hour % 2).append(" least 1 from ").append(hour).append(" to ").append(hour).append(";");
        }
        LitNextDoor x = Check.built(text.toString());
        // 0 and 2 light 1, and 1 lights 2: one lamp goes to and fro, two stay.
        Check.due("all hours, one lamp", x.carry(1, 0, 23, NONE), 23);
        for (int what = 0; what < 24; what++) {
            Check.due("hour " + what, x.carry(1, 0, 23, what), what % 2 == 0 ? 0 : 1);
        }
        Check.thrown("a 25th", ARGUMENT, () -> x.carry(1, 0, 23, 24));
        Check.due("all hours, two lamps", x.carry(2, 0, 23, NONE), 0);
        for (int what = 0; what < 48; what++) {
            Check.due("place " + what, x.carry(2, 0, 23, what), what % 2);
        }
        Check.thrown("a 49th", ARGUMENT, () -> x.carry(2, 0, 23, 48));
        Check.due("the last hour alone", x.carry(1, 23, 23, 0), 1);
        Check.due("the last two", x.carry(1, 22, 23, 1), 1);
    }

    private static void carriedNever() {
        Check.sentence("NONE: it can't be.");
        LitNextDoor apart = Check.built("rooms 4;pane 0 to 1 lets 1;pane 2 to 3 lets 1;want 1 least 1 from 0 to 0;want 3 least 1 from 1 to 1;");
        for (int what = NONE; what < 2; what++) {
            Check.due("no way", apart.carry(1, 0, 1, what), NONE);
        }
        places(apart, 2, 0, 1, 0, 0, 2, 0, 2);
        LitNextDoor unlit = Check.built("rooms 2;pane 0 to 1 lets 1;want 0 least 1 from 9 to 9;");
        Check.due("none is next", unlit.carry(2, 0, 23, NONE), NONE);
        Check.due("none is next", unlit.carry(2, 9, 9, 0), NONE);
        Check.due("hours ahead of it", unlit.carry(2, 0, 8, NONE), 0);
        Check.due("hours behind it", unlit.carry(2, 10, 23, NONE), 0);
        LitNextDoor three = Check.built("rooms 6;pane 0 to 1 lets 1;pane 2 to 3 lets 1;pane 4 to 5 lets 1;want 1 least 1;want 3 least 1;want 5 least 1;");
        Check.due("two can't light three", three.carry(2, 0, 0, NONE), NONE);
        LitNextDoor no = new LitNextDoor();
        Check.due("no rooms", no.carry(1, 0, 23, NONE), NONE);
        Check.due("no rooms", no.carry(2, 0, 23, 47), NONE);
    }

    private static void carryRefused() {
        Check.sentence("IllegalArgumentException: n, HOURS, another what.");
        LitNextDoor x = Check.built(ROW);
        for (int n : new int[] {0, 3, -1, Integer.MIN_VALUE, Integer.MAX_VALUE}) {
            Check.thrown("n " + n, ARGUMENT, () -> x.carry(n, 0, 0, NONE));
            Check.thrown("n " + n, ARGUMENT, () -> x.carry(n, 0, 0, 0));
        }
        int[][] hours = {{-1, 0}, {0, -1}, {24, 24}, {0, 24}, {24, 0}, {1, 0}, {23, 22}, {Integer.MIN_VALUE, 0}, {0, Integer.MAX_VALUE}};
        for (int[] h : hours) {
            Check.thrown("from " + h[0] + " to " + h[1], ARGUMENT, () -> x.carry(1, h[0], h[1], NONE));
        }
        Check.due("the same hour", x.carry(1, 23, 23, NONE), 0);
        Check.due("all hours", x.carry(2, 0, 23, NONE), 0);
        int[][] whats = {{1, 0, 0, 1}, {1, 5, 6, 2}, {2, 0, 0, 2}, {2, 5, 6, 4}, {1, 0, 0, -2}, {2, 0, 23, Integer.MIN_VALUE},
            {2, 0, 23, Integer.MAX_VALUE}};
        for (int[] w : whats) {
            Check.thrown("what " + w[3], ARGUMENT, () -> x.carry(w[0], w[1], w[2], w[3]));
        }
        Check.due("the last what of one", x.carry(1, 5, 6, 1), 0);
        Check.due("the last what of two", x.carry(2, 5, 6, 3), 0);
    }

    // ---- tenants

    private static void cost() {
        Check.sentence("COST of a set of tenants: of all sets of LAMPS in their ROOMS the least sum of burns and dear for each of theirs "
            + "that isn't LIT by these (NEXT to it).");
        int[][] dear = {{0, 0}, {9, 18}, {10, 20}, {11, 20}, {999, 20}};
        for (int[] d : dear) {
            LitNextDoor x = Check.built(PAIR + "dear " + d[0] + ";");
            Check.due("dear " + d[0] + ", one alone", x.cost(1), d[0]);
            Check.due("dear " + d[0] + ", both", x.cost(3), d[1]);
        }
        LitNextDoor x = Check.built(ROW + "burns 0 for 1;burns 99 for 2;burns 99 for 0;dear 30;");
        Check.due("nobody", x.cost(0), 0);
        Check.due("1 lights 0 for nothing, 2 not", x.cost(3), 30);
        Check.due("not by one of another's", x.cost(5), 60);
        Check.due("1 lights 0 and 2", x.cost(7), 30);
        Check.due("3 lights 2", x.cost(12), 40);
        Check.due("all: 1 is lit by 2 for 99 at most", x.cost(15), 60);
        LitNextDoor one = Check.built("rooms 3;pane 0 to 1 lets 1;pane 0 to 2 lets 1;burns 60 for 0;");
        Check.due("one way: 60 for two", one.cost(7), 50 + 60);
        Check.due("60 for one is too much", one.cost(3), 100);
        Check.sentence("COST of a set.");
        Check.due("nobody of no rooms", new LitNextDoor().cost(0), 0);
    }

    private static void costOfAll() {
        StringBuilder star = new StringBuilder("rooms 16;");
        for (int room = 1; room < 16; room++) {
            star.append("pane 0 to ").append(room).append(" lets 1 both;");
        }
        LitNextDoor x = Check.built(star + "dear 999;");
        Check.due("all of a star", x.cost(65535), 20);
        Check.due("all but its middle", x.cost(65534), 15 * 999);
        Check.sentence("IllegalArgumentException: a set with others.");
        Check.thrown("a 17th", ARGUMENT, () -> x.cost(65536));
        Check.thrown("a 32nd", ARGUMENT, () -> x.cost(Integer.MIN_VALUE));
        Check.thrown("all bits", ARGUMENT, () -> x.cost(-1));
        Check.thrown("one of no rooms", ARGUMENT, () -> new LitNextDoor().cost(1));
    }

    private static void fraction(LitNextDoor x, int room, long upper, long lower) {
        Check.due("owed(" + room + ")", x.owed(room), true);
        Check.due("upper of " + room, x.upper(), upper);
        Check.due("lower of " + room, x.lower(), lower);
    }

    private static void owedMeans() {
        Check.sentence("SAVING: dear for each of them, less COST.");
        Check.sentence("OWED to a tenant (of all ROOMS, at most 10): the mean over all orders of tenants of what SAVING of those up to it is more "
            + "than of those ahead of it:");
        LitNextDoor pair = Check.built(PAIR);
        fraction(pair, 0, 40, 1);
        fraction(pair, 1, 40, 1);
        // 0 lights 1 for 10: they save 40 together; 2 has no part in it.
        LitNextDoor one = Check.built("rooms 3;pane 0 to 1 lets 1;");
        fraction(one, 0, 20, 1);
        fraction(one, 1, 20, 1);
        fraction(one, 2, 0, 1);
        // 0 lights all four others: each of them adds 50, the first of them with 0 but 40.
        LitNextDoor four = Check.built("rooms 5;pane 0 to 1 lets 1;pane 0 to 2 lets 1;pane 0 to 3 lets 1;pane 0 to 4 lets 1;");
        fraction(four, 0, 92, 1);
        fraction(four, 1, 49, 2);
        Check.house(four, "rooms 5;pane 0 to 1 lets 1;");
        fraction(four, 0, 20, 1);
        fraction(four, 4, 0, 1);
        LitNextDoor ten = Check.built(Probe.ring(10));
        for (int room = 0; room < 10; room++) {
            fraction(ten, room, 44, 1);
        }
    }

    private static void owedFraction() {
        Check.sentence("a FRACTION (least numbers, the lower above 0).");
        LitNextDoor x = Check.built("rooms 3;pane 0 to 1 lets 1;pane 1 to 0 lets 1;pane 0 to 2 lets 1;dear 30;");
        fraction(x, 0, 100, 3);
        fraction(x, 1, 70, 3);
        fraction(x, 2, 40, 3);
        fraction(Check.built("rooms 1;"), 0, 0, 1);
        fraction(Check.built("rooms 10;"), 9, 0, 1);
        fraction(Check.built(PAIR + "dear 0;"), 0, 0, 1);
        fraction(Check.built("rooms 2;pane 0 to 1 lets 1;dear 11;"), 0, 1, 2);
        Check.sentence("OWED is the FRACTION: true;");
        Check.due("the answer", x.owed(2), true);
        Check.due("the fraction", x.upper(), 40);
    }

    private static void owedTooMany() {
        Check.sentence("0 over 0: false, if there are more than 10 ROOMS.");
        LitNextDoor x = Check.built(Probe.ring(10));
        fraction(x, 9, 44, 1);
        for (int rooms = 11; rooms <= 16; rooms++) {
            Check.house(x, PAIR);
            fraction(x, 0, 40, 1);
            Check.house(x, Probe.ring(rooms));
            Check.due("owed with " + rooms, x.owed(rooms - 1), false);
            Check.due("upper with " + rooms, x.upper(), 0);
            Check.due("lower with " + rooms, x.lower(), 0);
            int beyond = rooms;
            Check.thrown("no such room with " + rooms, ELEMENT, () -> x.owed(beyond));
        }
        Check.thrown("no rooms", ELEMENT, () -> new LitNextDoor().owed(0));
    }

    private static void latestFraction() {
        Check.sentence("The upper number of the latest FRACTION; 0 without any.");
        LitNextDoor x = Check.built("rooms 3;pane 0 to 1 lets 1;pane 1 to 0 lets 1;pane 0 to 2 lets 1;dear 30;");
        Check.due("without any", x.upper(), 0);
        x.owed(0);
        x.owed(1);
        Check.due("the latest", x.upper(), 70);
        Check.thrown("one that throws", ELEMENT, () -> x.owed(3));
        Check.due("behind a throw", x.upper(), 70);
        x.house(0);
        Check.due("behind another house", x.upper(), 70);
        Check.sentence("Its lower number; 0 without any.");
        Check.due("without any", new LitNextDoor().lower(), 0);
        Check.due("behind another house", x.lower(), 3);
        Check.thrown("one that throws", ELEMENT, () -> x.owed(0));
        Check.due("behind a throw", x.lower(), 3);
    }

    private static void sooner() {
        Check.sentence("SOONER: of all sets that aren't empty the least as bits whose SAVING is more than what is told to them together "
            + "(a TRAY: one number for each ROOM).");
        LitNextDoor x = Check.built(PAIR);
        // Both save 80 together, one alone nothing.
        long[][] told = {{40, 40, NONE}, {40, 39, 3}, {0, 80, NONE}, {0, 79, 3}, {-1, 0, 1}, {0, -1, 2}, {-1, -1, 1}, {1, -1, 2},
            {81, -1, 2}, {0, 0, 3}};
        for (long[] t : told) {
            Probe.put(x, 3, 3, t[0], t[1]);
            Check.due("told " + t[0] + ", " + t[1], x.sooner(3), t[2]);
        }
        Check.sentence("SOONER; NONE: no set.");
        LitNextDoor no = new LitNextDoor();
        no.tray(0, 0, 0);
        Check.due("no rooms", no.sooner(0), NONE);
        Check.house(x, Probe.ring(10));
        // Four in a row save 180 by two lamps, and no set saves more for each.
        Probe.put(x, 0, 1, 45, 45, 45, 45, 45, 45, 45, 45, 45, 45);
        Check.due("as much", x.sooner(0), NONE);
        x.write(0, 9, 44);
        Check.due("one less to the last: it and 0 to 2", x.sooner(0), 1 << 9 | 7);
        x.write(0, 3, 44);
        Check.due("one less to 3: it and 0 to 2", x.sooner(0), 15);
    }

    private static void soonerNumbers() {
        Check.sentence("IllegalArgumentException: more than 10 ROOMS, a number that isn't -9999 to 9999.");
        LitNextDoor x = Check.built(PAIR);
        Probe.put(x, 3, 3, 9999, 9999);
        Check.due("the most", x.sooner(3), NONE);
        Probe.put(x, 3, 3, 9999, -9999);
        Check.due("the least to the second", x.sooner(3), 2);
        Probe.put(x, 3, 3, -9999, 9999);
        Check.due("the least to the first", x.sooner(3), 1);
        long[] wrong = {10000, -10000, 65536, -65536, 1L << 32, 1L << 32 | 5, Long.MIN_VALUE, Long.MAX_VALUE};
        for (long w : wrong) {
            Probe.put(x, 3, 3, w, 0);
            Check.thrown("told " + w + " first", ARGUMENT, () -> x.sooner(3));
            Probe.put(x, 3, 3, 0, w);
            Check.thrown("told " + w + " last", ARGUMENT, () -> x.sooner(3));
        }
        for (int rooms = 11; rooms <= 16; rooms++) {
            Check.house(x, "rooms " + rooms + ";");
            x.tray(0, 0, rooms);
            Check.thrown(rooms + " rooms", ARGUMENT, () -> x.sooner(0));
            x.tray(0, 0, 40);
            Check.thrown(rooms + " rooms, 40 numbers", ARGUMENT, () -> x.sooner(0));
        }
        Check.house(x, "rooms 10;");
        Check.due("10 rooms, 40 numbers", x.sooner(0), NONE);
        x.tray(0, 0, 10);
        Check.due("10 rooms, 10 numbers", x.sooner(0), NONE);
    }

    private static void soonerRefused() {
        Check.sentence("NoSuchElementException: no such TRAY (as below); IllegalStateException: it is MISSING (as below); "
            + "IndexOutOfBoundsException: it has fewer numbers than there are ROOMS;");
        LitNextDoor x = Check.built(PAIR);
        for (int tray : LampEdgeTest.beyond(4)) {
            Check.thrown("sooner(" + tray + ")", ELEMENT, () -> x.sooner(tray));
        }
        for (int tray = 0; tray < 4; tray++) {
            int t = tray;
            Check.thrown("missing " + t, STATE, () -> x.sooner(t));
            x.tray(t, 0, 0);
            Check.thrown("no numbers", BOUNDS, () -> x.sooner(t));
            x.tray(t, 0, 1);
            Check.thrown("one number", BOUNDS, () -> x.sooner(t));
            x.tray(t, 0, 2);
            Check.due("two numbers", x.sooner(t), 3);
            x.tray(t, 0, 3);
            Check.due("three numbers", x.sooner(t), 3);
        }
        Probe.put(x, 0, 3, 10000);
        Check.thrown("fewer numbers are told first", BOUNDS, () -> x.sooner(0));
        Check.house(x, "rooms 11;");
        Check.thrown("fewer numbers are told first", BOUNDS, () -> x.sooner(0));
        x.tray(0, 0, 10);
        Check.thrown("fewer numbers are told first", BOUNDS, () -> x.sooner(0));
        LitNextDoor many = Check.built("rooms 11;");
        Check.thrown("missing is told first", STATE, () -> many.sooner(3));
        Check.thrown("no such tray is told first", ELEMENT, () -> many.sooner(4));
    }
}
