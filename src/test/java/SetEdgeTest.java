import java.util.NoSuchElementException;

/** The edges of sets of rooms, of grids and of holes; promises 21 to 31. */
public final class SetEdgeTest {
    private static final Class<IllegalArgumentException> ARGUMENT = IllegalArgumentException.class;
    private static final Class<NoSuchElementException> ELEMENT = NoSuchElementException.class;
    private static final int NONE = LitNextDoor.NONE;
    // Each of four lights each other one.
    private static final String FULL = "rooms 4;pane 0 to 1 lets 1 both;pane 0 to 2 lets 1 both;pane 0 to 3 lets 1 both;"
        + "pane 1 to 2 lets 1 both;pane 1 to 3 lets 1 both;pane 2 to 3 lets 1 both;";
    private static final String ROW = "rooms 4;pane 0 to 1 lets 1 both;pane 1 to 2 lets 1 both;pane 2 to 3 lets 1 both;";
    private static final String ONE_WAY = "rooms 4;pane 0 to 1 lets 1;pane 1 to 2 lets 1;pane 2 to 3 lets 1;pane 3 to 0 lets 1;";
    private static final String HALVES = "rooms 4;pane 0 to 3 lets 50;pane 1 to 3 lets 50;pane 2 to 3 lets 100;lamp bright 10 oil 1;";

    private SetEdgeTest() {
    }

    public static void main(String[] args) {
        unlit();
        fewest();
        twice();
        apart();
        lone();
        bestRefused();
        gap();
        bright();
        brightTies();
        always();
        ever();
        barred();
        day();
        dayWithout();
        mixed();
        mixedOrder();
        mixedAnswers();
        mixedRefused();
        grid();
        gridRefused();
        hole();
        saves();
        which();
        Check.end("SetEdgeTest");
    }

    /** Rooms two by two that light each other. */
    private static String pairs(int many) {
        StringBuilder text = new StringBuilder("rooms " + 2 * many + ";");
        for (int i = 0; i < many; i++) {
            text.append("pane ").append(2 * i).append(" to ").append(2 * i + 1).append(" lets 1 both;");
        }
        return text.toString();
    }

    /** Room 0 and all others light each other. */
    private static String star(int rooms) {
        StringBuilder text = new StringBuilder("rooms " + rooms + ";");
        for (int i = 1; i < rooms; i++) {
            text.append("pane 0 to ").append(i).append(" lets 1 both;");
        }
        return text.toString();
    }

    private static void unlit() {
        Check.sentence("NONE can light ROOMS without any NEXT.");
        Check.due("a room to which none is next", Check.built(pairs(7).replace("rooms 14", "rooms 15")).best(0), NONE);
        Check.due("one room", Check.built("rooms 1;").best(0), NONE);
        Check.due("no pane", Check.built("rooms 16;").best(0), NONE);
        Check.due("a pane away only", Check.built("rooms 2;pane 0 to 1 lets 100;").best(0), NONE);
        Check.due("no rooms", new LitNextDoor().best(0), 0);
    }

    private static void fewest() {
        Check.sentence("FEWEST: of all sets that LIGHT all ROOMS that with the fewest ROOMS, of like ones the least as bits.");
        Check.due("two of four", Check.built(FULL).best(0), 3);
        Check.due("two of four in a ring", Check.built(Probe.ring(4)).best(0), 3);
        Check.due("all of 16", Check.built(pairs(8)).best(0), 65535);
        Check.due("the middle of a row", Check.built(ROW).best(0), 6);
        Check.due("all of one way", Check.built(ONE_WAY).best(0), 15);
        // Rooms 0, 1 and 2 light all and are less as bits, but 0 and 15 do, and so do 14 and 15.
        StringBuilder text = new StringBuilder("rooms16;pane0to15lets1;pane2to0lets1;pane14to15lets1;");
        for (int room = 0; room < 15; room++) {
            text.append("pane15to").append(room).append("lets1;");
            if (room > 0) {
                text.append(room < 8 ? "pane0to" : "pane1to").append(room).append("lets1;");
            }
        }
        LitNextDoor x = Check.built(text.toString());
        Check.due("three do", x.lights(7, 65535), true);
        Check.due("the last two do", x.lights(3 << 14, 65535), true);
        Check.due("the first and the last", x.best(0), 1 << 15 | 1);
    }

    private static void twice() {
        Check.sentence("TWICE: likewise, so that to each ROOM two of the set are NEXT.");
        Check.due("three of four", Check.built(FULL).best(1), 7);
        Check.due("all in a ring", Check.built(Probe.ring(4)).best(1), 15);
        Check.due("all of 16 in a ring", Check.built(Probe.ring(16)).best(1), 65535);
        Check.due("one has but one", Check.built(ROW).best(1), NONE);
        Check.due("two panes of one room are one", Check.built("rooms 2;pane 0 to 1 lets 1 both;pane 0 to 1 lets 1 both;").best(1), NONE);
        // 0 and the ring of 1 to 5 light each other, and each of the ring its neighbours: 0 lights all of the ring, but only once.
        Check.due("one counts once", Check.built("rooms 6;pane 0 to 1 lets 1 both;pane 0 to 2 lets 1 both;pane 0 to 3 lets 1 both;pane 0 to 4 lets 1 both;"
            + "pane 0 to 5 lets 1 both;pane 1 to 2 lets 1 both;pane 2 to 3 lets 1 both;pane 3 to 4 lets 1 both;pane 4 to 5 lets 1 both;"
            + "pane 5 to 1 lets 1 both;").best(1), 15);
        Check.due("no rooms", new LitNextDoor().best(1), 0);
        Check.due("no pane", Check.built("rooms 2;").best(1), NONE);
    }

    private static void apart() {
        Check.sentence("APART: likewise FEWEST, but no ROOM that one can't bear is in the set and NEXT to it.");
        Check.due("nobody is hated", Check.built(FULL).best(2), 3);
        Check.due("1 can't be in it", Check.built(FULL + "hates 0 1;").best(2), 5);
        Check.due("0 and 1 can't be", Check.built(FULL + "hates 3 1;hates 2 0;").best(2), 12);
        Check.due("one is left", Check.built(FULL + "hates 3 1;hates 2 0;hates 0 2;").best(2), NONE);
        Check.due("who isn't next to it may be", Check.built(ROW + "hates 0 2;hates 3 1;").best(2), 6);
        Check.due("who is next to it may not", Check.built(ROW + "hates 2 1;").best(2), NONE);
        // A pane from 0 to 1 only: 1 can't light 0, so that 0 may hate it.
        Check.due("against the pane", Check.built("rooms 3;pane 0 to 1 lets 1;pane 1 to 2 lets 1;pane 2 to 0 lets 1;hates 0 1;").best(2), 7);
        Check.due("all of 16", Check.built(pairs(8) + "hates 0 15;hates 15 1;").best(2), 65535);
        Check.due("the last of 16 hates who lights it", Check.built(pairs(8) + "hates 15 14;").best(2), NONE);
        Check.due("no rooms", new LitNextDoor().best(2), 0);
    }

    private static void lone() {
        Check.sentence("LONE: of all sets of ROOMS to no two of which the same ROOM is NEXT that with the most, of like ones the least.");
        Check.due("to none any is next", Check.built("rooms 16;").best(3), 65535);
        Check.due("one room", Check.built("rooms 1;").best(3), 1);
        Check.due("any two share one", Check.built(FULL).best(3), 1);
        Check.due("two by two", Check.built(pairs(8)).best(3), 65535);
        Check.due("0 or 1, and with them others", Check.built(Probe.ring(4)).best(3), 3);
        // 0 is next to 1 and to 2; to 0 none is.
        Check.due("one of 1 and 2", Check.built("rooms 3;pane 0 to 1 lets 1;pane 0 to 2 lets 1;").best(3), 3);
        // 0 alone is less as bits, but shares with 1 and with 2, which are two.
        LitNextDoor again = Check.built(FULL);
        Check.due("any two share one", again.best(3), 1);
        Check.house(again, "rooms 4;");
        Check.due("in another house none do", again.best(3), 15);
        Check.house(again, FULL);
        Check.due("and again any two", again.best(3), 1);
        Check.due("more are better", Check.built("rooms 5;pane 3 to 0 lets 1;pane 4 to 0 lets 1;pane 3 to 1 lets 1;pane 4 to 2 lets 1;").best(3), 30);
        Check.sentence("The set of ROOMS that is FEWEST (what 0), TWICE (1), APART (2), LONE (3); NONE: there is none (LONE: never).");
        LitNextDoor unlit = Check.built("rooms 3;pane 0 to 1 lets 1;");
        int[] due = {NONE, NONE, NONE, 7};
        for (int what = 0; what < 4; what++) {
            Check.due("best(" + what + ")", unlit.best(what), due[what]);
            Check.due("best(" + what + ") without rooms", new LitNextDoor().best(what), 0);
        }
        LitNextDoor x = Check.built(FULL + "hates 1 0;");
        int[] all = {3, 7, 6, 1};
        for (int what = 0; what < 4; what++) {
            Check.due("best(" + what + ")", x.best(what), all[what]);
        }
    }

    private static void bestRefused() {
        Check.sentence("IllegalArgumentException: another what.");
        LitNextDoor x = Check.built(FULL);
        for (int what : LampEdgeTest.beyond(4)) {
            Check.thrown("best(" + what + ")", ARGUMENT, () -> x.best(what));
            Check.thrown("best(" + what + ") without rooms", ARGUMENT, () -> new LitNextDoor().best(what));
        }
    }

    private static void gap() {
        Check.sentence("GAP: ROOMS of FEWEST less ROOMS of LONE.");
        Check.due("two less one", Check.built(FULL).gap(), 1);
        Check.due("two less two", Check.built(ROW).gap(), 0);
        Check.due("sixteen less sixteen", Check.built(pairs(8)).gap(), 0);
        Check.due("three less two", Check.built(Probe.ring(5)).gap(), 1);
        Check.sentence("GAP; NONE: there is no FEWEST.");
        Check.due("no fewest", Check.built("rooms 1;").gap(), NONE);
        Check.due("no fewest", Check.built("rooms 16;").gap(), NONE);
        Check.due("no rooms", new LitNextDoor().gap(), 0);
    }

    private static void bright() {
        Check.sentence("BRIGHT for a KIND in an HOUR: likewise FEWEST (the empty set, too) of all sets by which, with such a LAMP in each "
            + "and none else, all ROOMS are RIGHT in that HOUR.");
        String ring = Probe.ring(4) + "lamp bright 100 oil 1;lamp bright 101 oil 1;lamp bright 102 oil 1;";
        // A lamp of these kinds gives 50, 50 and 51 to each neighbour.
        int[][] wants = {{0, 9999, 0, 0, 0}, {0, 0, 0, 0, 0}, {1, 9999, 2, 2, 2}, {50, 50, 2, 2, NONE}, {51, 9999, 10, 10, 2},
            {100, 100, 10, 10, NONE}, {101, 9999, NONE, NONE, 10}, {102, 102, NONE, NONE, 10}, {103, 9999, NONE, NONE, NONE}};
        for (int[] w : wants) {
            LitNextDoor x = Check.built(ring + "want 0 least " + w[0] + " most " + w[1] + " from 23 to 23;");
            Check.sentence("BRIGHT; NONE.");
            for (int kind = 0; kind < 3; kind++) {
                Check.due("least " + w[0] + " most " + w[1] + " by kind " + kind, x.bright(kind, 23), w[2 + kind]);
                Check.due("nothing is wanted", x.bright(kind, 22), 0);
            }
            x.hang(1, 0, 0xFFFFFF);
            x.hang(3, 0, 0xFFFFFF);
            Check.due("lamps that hang don't count", x.bright(0, 23), w[2]);
        }
    }

    private static void brightTies() {
        // 2 lights all that want light; 0 with 1 would, too, and is less as bits.
        String three = "rooms 6;pane 2 to 4 lets 100;pane 2 to 5 lets 100;pane 0 to 4 lets 100;pane 1 to 5 lets 100;lamp bright 9 oil 1;";
        Check.due("the fewest come first", Check.built(three + "want 4 least 9;want 5 least 9;").bright(0, 0), 4);
        Check.due("then the least as bits", Check.built(three + "want 4 least 9;").bright(0, 0), 1);
        Check.due("too bright for one", Check.built(three + "want 4 least 9;want 5 least 0 most 8;").bright(0, 0), 1);
        Check.due("too bright for both", Check.built(three + "want 4 least 9;want 5 least 9;want 5 least 0 most 8;").bright(0, 0), NONE);
        Check.due("both of them", Check.built(three + "want 4 least 18;want 5 least 10;").bright(0, 0), 7);
        // 0 with 1 gives as much as 2 alone; all three would be too bright.
        Check.due("one for two", Check.built(HALVES + "want 3 least 10 most 10;").bright(0, 0), 4);
        StringBuilder all = new StringBuilder(pairs(8)).append("lamp bright 100 oil 99;");
        for (int room = 0; room < 16; room++) {
            all.append("want ").append(room).append(" least 1;");
        }
        Check.due("all of 16", Check.built(all.toString()).bright(0, 0), 65535);
        Check.due("no rooms", Check.built("lamp bright 1 oil 1;").bright(0, 23), 0);
        Check.due("a room that none lights", Check.built("rooms 1;lamp bright 1 oil 1;want 0 least 1;").bright(0, 0), NONE);
        Check.due("which bears the dark", Check.built("rooms 1;lamp bright 1 oil 1;want 0 least 0 most 0;").bright(0, 0), 0);
    }

    private static void always() {
        Check.sentence("ALWAYS are ROOMS that are in all sets that LIGHT all ROOMS with as few ROOMS as FEWEST,");
        Check.due("the middle of a star, and any other", Check.built(star(16)).always(), 1);
        Check.due("two of a row", Check.built(ROW).always(), 6);
        Check.due("no one of a ring", Check.built(Probe.ring(4)).always(), 0);
        Check.due("all", Check.built(pairs(8)).always(), 65535);
        Check.sentence("ALWAYS; 0, if there is no FEWEST.");
        Check.due("no fewest", Check.built("rooms 2;pane 0 to 1 lets 1;").always(), 0);
        Check.due("no rooms", new LitNextDoor().always(), 0);
    }

    private static void ever() {
        Check.sentence("EVER those that are in some of these.");
        Check.due("all of a star", Check.built(star(16)).ever(), 65535);
        Check.due("two of a row", Check.built(ROW).ever(), 6);
        Check.due("all of a ring", Check.built(Probe.ring(4)).ever(), 15);
        // 0 alone lights 4, which lights nobody; with 0 any of the others does.
        Check.due("not the last", Check.built(FULL.replace("rooms 4", "rooms 5") + "pane 0 to 4 lets 1;").ever(), 15);
        Check.sentence("EVER; 0, if there is no FEWEST.");
        Check.due("no fewest", Check.built("rooms 2;pane 0 to 1 lets 1;").ever(), 0);
        Check.due("no rooms", new LitNextDoor().ever(), 0);
    }

    private static void barred() {
        Check.sentence("BARRED by a ROOM: ROOMS of FEWEST of sets without that ROOM.");
        LitNextDoor x = Check.built(star(16));
        Check.due("without another", x.barred(15), 2);
        Check.due("two of four without one", Check.built(FULL).barred(0), 2);
        Check.due("it takes one more", Check.built("rooms 4;pane 0 to 1 lets 1;pane 0 to 2 lets 1;pane 0 to 3 lets 1;pane 1 to 0 lets 1;"
            + "pane 2 to 3 lets 1;pane 3 to 1 lets 1;pane 3 to 2 lets 1;").barred(0), 3);
        Check.sentence("BARRED; NONE: there is none.");
        Check.due("not without the middle", x.barred(0), NONE);
        Check.due("not without any", Check.built(pairs(8)).barred(15), NONE);
        Check.due("one room", Check.built("rooms 1;").barred(0), NONE);
        Check.thrown("a 17th", ELEMENT, () -> x.barred(16));
        Check.thrown("no rooms", ELEMENT, () -> new LitNextDoor().barred(0));
    }

    private static void day() {
        Check.sentence("DAY of a KIND: over all HOURS, how many ROOMS are in BRIGHT, times its oil, together.");
        String row = ROW.replace("lets 1", "lets 100") + "lamp bright 5 oil 7;lamp bright 5 oil 0;";
        Check.due("no wants", Check.built(row).day(0), 0);
        Check.due("the first hour alone", Check.built(row + "want 0 least 1 from 0 to 0;").day(0), 7);
        Check.due("the last hour alone", Check.built(row + "want 0 least 1 from 23 to 23;").day(0), 7);
        Check.due("all hours", Check.built(row + "want 0 least 1;").day(0), 24 * 7);
        Check.due("one, two, one", Check.built(row + "want 0 least 1 from 2 to 3;want 3 least 1 from 3 to 4;").day(0), 4 * 7);
        Check.due("no oil", Check.built(row + "want 0 least 1;").day(1), 0);
        StringBuilder all = new StringBuilder(pairs(8)).append("lamp bright 100 oil 99;");
        for (int room = 0; room < 16; room++) {
            all.append("want ").append(room).append(" least 1;");
        }
        Check.due("the most", Check.built(all.toString()).day(0), 16 * 24 * 99);
        Check.due("no rooms", Check.built("lamp bright 1 oil 9;").day(0), 0);
    }

    private static void dayWithout() {
        Check.sentence("DAY; NONE: in some HOUR there is no BRIGHT.");
        String row = ROW.replace("lets 1", "lets 100") + "lamp bright 5 oil 7;lamp bright 6 oil 0;";
        for (int hour : new int[] {0, 12, 23}) {
            LitNextDoor x = Check.built(row + "want 0 least 6 from " + hour + " to " + hour + ";want 1 least 1;");
            Check.due("never so bright by kind 0", x.day(0), NONE);
            Check.due("by kind 1, without oil", x.day(1), 0);
        }
        // The same wants were met an hour ahead, then more are told.
        LitNextDoor x = Check.built(row + "want 0 least 5 from 0 to 22;want 0 least 4 most 4 from 23 to 23;");
        Check.due("too bright in the last hour", x.day(0), NONE);
    }

    private static void mixed() {
        Check.sentence("MIXED in an HOUR (at most 8 ROOMS): in each ROOM a LAMP of any KIND or none (told ones aside), so that all ROOMS are RIGHT:");
        StringBuilder eight = new StringBuilder(pairs(4).replace("lets 1", "lets 100")).append("lamp bright 7 oil 99;lamp bright 6 oil 98;");
        for (int room = 0; room < 8; room++) {
            eight.append("want ").append(room).append(" least ").append(room < 4 ? 7 : 6).append(" most ").append(room < 4 ? 7 : 6).append(';');
        }
        LitNextDoor x = Check.built(eight.toString());
        Check.due("oil of eight", x.mixed(0, NONE), 4 * 99 + 4 * 98);
        Check.due("eight lamps", x.mixed(23, -2), 8);
        for (int room = 0; room < 8; room++) {
            Check.due("kind in " + room, x.mixed(0, room), room < 4 ? 0 : 1);
        }
        for (int room = 0; room < 8; room++) {
            x.hang(room, 1, 0xFFFFFF);
        }
        Check.due("told ones aside", x.mixed(0, NONE), 4 * 99 + 4 * 98);
        LitNextDoor free = Check.built("rooms 2;pane 0 to 1 lets 100;lamp bright 5 oil 1;want 1 least 0 most 4;");
        free.hang(0, 0, 1);
        Check.due("it is too bright by the told one", free.dark(0), 2);
        Check.due("told ones aside", free.mixed(0, -2), 0);
        Check.due("told ones aside", free.mixed(0, 0), NONE);
    }

    private static void mixedOrder() {
        Check.sentence("that with the least oil, of these that with the fewest LAMPS, of like ones the first (ROOM 0's KIND, none ahead of KIND 0, "
            + "then ROOM 1's ..).");
        String two = "rooms 3;pane 0 to 1 lets 100;pane 2 to 1 lets 100;";
        // one lamp for 5 oil, or two for 4 together
        LitNextDoor oil = Check.built(two + "lamp bright 100 oil 5;lamp bright 50 oil 2;want 1 least 100;");
        mixedIs(oil, 4, 2, 1, NONE, 1);
        LitNextDoor lamps = Check.built(two + "lamp bright 100 oil 4;lamp bright 50 oil 2;want 1 least 100;");
        mixedIs(lamps, 4, 1, NONE, NONE, 0);
        LitNextDoor none = Check.built(two + "lamp bright 100 oil 0;lamp bright 100 oil 0;want 1 least 100;");
        mixedIs(none, 0, 1, NONE, NONE, 0);
        LitNextDoor both = Check.built(two + "lamp bright 40 oil 1;lamp bright 60 oil 1;want 1 least 100 most 100;");
        mixedIs(both, 2, 2, 0, NONE, 1);
        LitNextDoor half = Check.built(HALVES + "want 3 least 10 most 10;");
        mixedIs(half, 1, 1, NONE, NONE, 0);
        // Without room 0 it takes three lamps, with it two: for no oil at all, or for as much.
        String three = "rooms 7;pane 0 to 4 lets 100;pane 0 to 5 lets 100;pane 1 to 4 lets 50;pane 2 to 5 lets 50;pane 3 to 6 lets 50;";
        String wants = "want 4 least 5;want 5 least 5;want 6 least 5;";
        LitNextDoor free = Check.built(three + "lamp bright 10 oil 0;" + wants);
        mixedIs(free, 0, 2, 0, NONE, NONE);
        Check.due("and the last", free.mixed(0, 3), 0);
        // In room 0 it takes the brighter kind, for as much oil as two of the other.
        LitNextDoor same = Check.built(three.replace("lets 100", "lets 25") + "lamp bright 10 oil 1;lamp bright 20 oil 2;" + wants);
        mixedIs(same, 3, 2, 1, NONE, NONE);
        Check.due("and the last", same.mixed(0, 3), 0);
        LitNextDoor nothing = Check.built(two + "lamp bright 1 oil 0;");
        mixedIs(nothing, 0, 0, NONE, NONE, NONE);
        LitNextDoor dimmest = Check.built(two + "lamp bright 3 oil 1;lamp bright 2 oil 1;want 1 least 2 most 2;");
        mixedIs(dimmest, 1, 1, NONE, NONE, 1);
        LitNextDoor four = Check.built(two + "lamp bright 1 oil 9;lamp bright 1 oil 8;lamp bright 1 oil 9;lamp bright 1 oil 7;want 1 least 1;");
        mixedIs(four, 7, 1, NONE, NONE, 3);
    }

    private static void mixedIs(LitNextDoor x, int oil, int lamps, int first, int second, int third) {
        Check.due("oil", x.mixed(0, NONE), oil);
        Check.due("lamps", x.mixed(0, -2), lamps);
        Check.due("kind in 0", x.mixed(0, 0), first);
        Check.due("kind in 1", x.mixed(0, 1), second);
        Check.due("kind in 2", x.mixed(0, 2), third);
    }

    private static void mixedAnswers() {
        Check.sentence("MIXED, what NONE: the oil, -2: how many LAMPS, else the KIND in a ROOM (NONE: none). NONE: there is none.");
        LitNextDoor x = Check.built("rooms 8;pane 0 to 1 lets 100;lamp bright 5 oil 99;want 1 least 6 from 0 to 0;want 1 least 5 from 23 to 23;");
        for (int what = -2; what < 8; what++) {
            Check.due("it can't be", x.mixed(0, what), NONE);
        }
        LitNextDoor against = Check.built("rooms 2;pane 0 to 1 lets 100;lamp bright 5 oil 9;want 1 least 5;want 1 least 0 most 4;");
        for (int what = -2; what < 2; what++) {
            Check.due("wants that never go together", against.mixed(0, what), NONE);
        }
        Check.due("oil", x.mixed(23, NONE), 99);
        Check.due("lamps", x.mixed(23, -2), 1);
        Check.due("the first room", x.mixed(23, 0), 0);
        Check.due("the last room", x.mixed(23, 7), NONE);
        LitNextDoor no = new LitNextDoor();
        Check.due("no rooms: oil", no.mixed(0, NONE), 0);
        Check.due("no rooms: lamps", no.mixed(0, -2), 0);
    }

    private static void mixedRefused() {
        Check.sentence("IllegalArgumentException: the HOUR, more than 8 ROOMS, another what.");
        LitNextDoor x = Check.built("rooms 8;");
        for (int hour : new int[] {-1, 24, Integer.MIN_VALUE, Integer.MAX_VALUE}) {
            Check.thrown("hour " + hour, ARGUMENT, () -> x.mixed(hour, NONE));
        }
        for (int what : new int[] {-3, 8, 9, Integer.MIN_VALUE, Integer.MAX_VALUE}) {
            Check.thrown("what " + what, ARGUMENT, () -> x.mixed(0, what));
        }
        for (int rooms = 9; rooms <= 16; rooms++) {
            LitNextDoor more = Check.built("rooms " + rooms + ";");
            for (int what : new int[] {-3, -2, NONE, 0, 8}) {
                Check.thrown(rooms + " rooms", ARGUMENT, () -> more.mixed(0, what));
            }
        }
        for (int rooms = 1; rooms <= 8; rooms++) {
            LitNextDoor fewer = Check.built("rooms " + rooms + ";");
            int last = rooms - 1;
            Check.due("the last of " + rooms, fewer.mixed(0, last), NONE);
            Check.thrown("one beyond it", ARGUMENT, () -> fewer.mixed(0, last + 1));
        }
        Check.thrown("no rooms: room 0", ARGUMENT, () -> new LitNextDoor().mixed(0, 0));
    }

    private static void grid() {
        Check.sentence("A GRID of a by b rooms (1 to 16 in all; room k stands in column k modulo a, row k by a; beside are those one column or one row away):");
        LitNextDoor x = new LitNextDoor();
        // 0 1 2 over 3 4 5: 2 and 3 aren't beside each other, though their numbers are.
        Check.due("three by two", x.grid(3, 2), 1 << 1 | 1 << 4);
        Check.due("two by three", x.grid(2, 3), 1 << 2 | 1 << 3);
        for (int a = 1; a <= 16; a++) {
            for (int b = 1; a * b <= 16; b++) {
                Check.due("grid(" + a + ", " + b + ")", x.grid(a, b), Model.grid(a, b));
            }
        }
        Check.sentence("FEWEST of it: of all sets by which each room is beside one of the set that with the fewest, of like ones the least as bits.");
        Check.due("a row of three", x.grid(3, 1), 3);
        Check.due("a row of five", x.grid(5, 1), 14);
        Check.due("a row of six", x.grid(6, 1), 27);
        Check.due("six rows", x.grid(1, 6), 27);
        Check.due("two by two", x.grid(2, 2), 3);
        Check.sentence("The set that is FEWEST of a GRID; NONE: there is none.");
        Check.due("one room", x.grid(1, 1), NONE);
        Check.due("two rooms", x.grid(2, 1), 3);
        Check.due("two rows", x.grid(1, 2), 3);
        Check.due("the house doesn't matter", Check.built("rooms 1;").grid(2, 2), 3);
        Check.due("nor is it changed", x.best(0), 0);
    }

    private static void gridRefused() {
        Check.sentence("IllegalArgumentException: a, b.");
        LitNextDoor x = new LitNextDoor();
        int[][] wrong = {{0, 1}, {1, 0}, {0, 0}, {-1, 1}, {1, -1}, {-1, -1}, {-4, -4}, {17, 1}, {1, 17}, {16, 2}, {2, 16}, {9, 2}, {2, 9},
            {6, 3}, {3, 6}, {5, 4}, {4, 5}, {65536, 65536}, {46341, 46341}, {1 << 30, 4}, {1 << 30, 8}, {0, 17}, {17, 0},
            {Integer.MAX_VALUE, Integer.MAX_VALUE}, {Integer.MIN_VALUE, Integer.MIN_VALUE}, {Integer.MIN_VALUE, 2}, {1, Integer.MAX_VALUE}};
        for (int[] w : wrong) {
            Check.thrown("grid(" + w[0] + ", " + w[1] + ")", ARGUMENT, () -> x.grid(w[0], w[1]));
        }
    }

    private static void hole() {
        Check.sentence("Of a HOLE, what 0: from, 1: to, 2: hundredths, 3: costs, 4: SAVES.");
        LitNextDoor x = Check.built(ONE_WAY + "hole 0 to 3 lets 1 costs 99;hole 3 to 2 lets 100 costs 0 both;");
        int[][] due = {{0, 3, 1, 99, 1}, {3, 2, 100, 0, 1}};
        for (int i = 0; i < 2; i++) {
            for (int what = 0; what < 5; what++) {
                Check.due("hole(" + i + ", " + what + ")", x.hole(i, what), due[i][what]);
            }
        }
        Check.sentence("NoSuchElementException: no such HOLE; IllegalArgumentException: another what.");
        for (int i : LampEdgeTest.beyond(2)) {
            Check.thrown("hole " + i, ELEMENT, () -> x.hole(i, 0));
            Check.thrown("hole " + i + ", what 4", ELEMENT, () -> x.hole(i, 4));
            Check.thrown("hole " + i + ", what 5", ELEMENT, () -> x.hole(i, 5));
        }
        for (int what : LampEdgeTest.beyond(5)) {
            Check.thrown("what " + what, ARGUMENT, () -> x.hole(0, what));
        }
        Check.thrown("no holes", ELEMENT, () -> new LitNextDoor().hole(0, 0));
    }

    private static void saves() {
        Check.sentence("SAVES of a HOLE: ROOMS of FEWEST less those of FEWEST if that pane were there, too "
            + "(if there is none now, and one then: 100; none then: 0).");
        LitNextDoor x = Check.built(ONE_WAY + "hole 0 to 1 lets 1 costs 0;hole 0 to 2 lets 1 costs 0;hole 0 to 2 lets 1 costs 0 both;");
        Check.due("a pane that there is", x.hole(0, 4), 0);
        Check.due("one way", x.hole(1, 4), 1);
        Check.due("both ways: 0 and 2 light all", x.hole(2, 4), 2);
        Check.due("they aren't made", x.best(0), 15);
        Check.due("both ways, told from the other end", Check.built(ONE_WAY + "hole 2 to 0 lets 1 costs 0 both;").hole(0, 4), 2);
        Check.due("both ways of 16", Check.built(pairs(8).replace("pane 14 to 15 lets 1 both;", "") + "hole 15 to 14 lets 1 costs 0 both;").hole(0, 4), 100);
        Check.due("one way of 16", Check.built(pairs(8).replace("pane 14 to 15 lets 1 both;", "") + "hole 15 to 14 lets 1 costs 0;").hole(0, 4), 0);
        LitNextDoor none = Check.built("rooms 3;pane 0 to 1 lets 1;pane 0 to 2 lets 1;hole 1 to 0 lets 1 costs 0;hole 2 to 1 lets 1 costs 0;");
        Check.due("none now, and one then", none.hole(0, 4), 100);
        Check.due("none then", none.hole(1, 4), 0);
        Check.due("the last of 16", Check.built(pairs(8).replace(" both", "")
            + "hole 1 to 0 lets 1 costs 0;hole 15 to 14 lets 1 costs 0;").hole(1, 4), 0);
    }

    private static void which() {
        Check.sentence("The HOLE that SAVES most, of these that which costs least, then the first; NONE: none SAVES any.");
        String one = "hole 0 to 2 lets 1 costs ";
        Check.due("no holes", Check.built(ONE_WAY).which(), NONE);
        Check.due("no rooms", new LitNextDoor().which(), NONE);
        Check.due("none saves any", Check.built(ONE_WAY + "hole 0 to 1 lets 1 costs 0;hole 1 to 2 lets 1 costs 0;").which(), NONE);
        Check.due("saves most, though dearest", Check.built(ONE_WAY + one + "0;" + one + "99 both;" + one + "0;").which(), 1);
        Check.due("costs least", Check.built(ONE_WAY + one + "2;" + one + "1;" + one + "2;").which(), 1);
        Check.due("the last costs least", Check.built(ONE_WAY + one + "2;" + one + "1;" + one + "0;").which(), 2);
        Check.due("the only one", Check.built(ONE_WAY + one + "99;").which(), 0);
        Check.due("the first of like ones", Check.built(ONE_WAY + one + "5;" + one + "5;").which(), 0);
        Check.due("the first costs least", Check.built(ONE_WAY + one + "0;" + one + "1;").which(), 0);
        Check.due("the first of like ones", Check.built(ONE_WAY + "hole 0 to 1 lets 1 costs 0;" + one + "5;" + one + "5;").which(), 1);
        Check.due("the eighth", Check.built(ONE_WAY + "hole 0 to 1 lets 1 costs 0;".repeat(7) + one + "99;").which(), 7);
        Check.due("100", Check.built("rooms 2;pane 0 to 1 lets 1;hole 0 to 1 lets 1 costs 0;hole 1 to 0 lets 1 costs 99;").which(), 1);
    }
}
