import java.util.NoSuchElementException;

/** The edges of what a house tells of itself, of lamps and their light; promises 5 to 20 and 48. */
public final class LampEdgeTest {
    private static final Class<IllegalArgumentException> ARGUMENT = IllegalArgumentException.class;
    private static final Class<NoSuchElementException> ELEMENT = NoSuchElementException.class;
    private static final int NONE = LitNextDoor.NONE;
    private static final int ALL_HOURS = 0xFFFFFF;
    private static final int[] NO_HOURS = {-1, 24, 31, 32, Integer.MIN_VALUE, Integer.MAX_VALUE};
    // 0 and 1 light each other, 2 lights 1, nobody lights 2.
    private static final String THREE = "rooms 3;pane 0 to 1 lets 50 both;pane 2 to 1 lets 33;lamp bright 100 oil 3;lamp bright 999 oil 99;";

    private LampEdgeTest() {
    }

    public static void main(String[] args) {
        none();
        pane();
        kind();
        next();
        hated();
        never();
        hang();
        hangRefused();
        of();
        light();
        lightRefused();
        by();
        right();
        wantsOfHour();
        dark();
        judge();
        out();
        spare();
        angry();
        oil();
        lights();
        count();
        Check.end("LampEdgeTest");
    }

    /** Numbers ahead of the first and behind the last of so many, near and far. */
    static int[] beyond(int many) {
        return new int[] {-1, -2, many, many + 1, many + 31, many + 32, 65536, Integer.MIN_VALUE, Integer.MAX_VALUE};
    }

    private static void none() {
        Check.sentence("The constants: `NONE = -1`: There is none.");
        Check.due("NONE", LitNextDoor.NONE, -1);
    }

    private static void pane() {
        Check.sentence("Of a pane, what 0: from, 1: to, 2: hundredths, 3: 1 if both ways, else 0.");
        LitNextDoor x = Check.built("rooms 16;pane 0 to 15 lets 1;pane 15 to 0 lets 100 both;");
        int[][] due = {{0, 15, 1, 0}, {15, 0, 100, 1}};
        for (int i = 0; i < 2; i++) {
            for (int what = 0; what < 4; what++) {
                Check.due("pane(" + i + ", " + what + ")", x.pane(i, what), due[i][what]);
            }
        }
        Check.sentence("NoSuchElementException: no such pane; IllegalArgumentException: another what.");
        for (int i : beyond(2)) {
            Check.thrown("pane " + i, ELEMENT, () -> x.pane(i, 0));
            Check.thrown("pane " + i + ", what -1", ELEMENT, () -> x.pane(i, -1));
            Check.thrown("pane 0 without any", ELEMENT, () -> new LitNextDoor().pane(0, 0));
        }
        for (int what : beyond(4)) {
            Check.thrown("what " + what, ARGUMENT, () -> x.pane(0, what));
            Check.thrown("what " + what, ARGUMENT, () -> x.pane(1, what));
        }
    }

    private static void kind() {
        Check.sentence("Of a KIND, what 0: bright, 1: oil.");
        LitNextDoor x = Check.built(THREE);
        Check.due("bright", x.kind(0, 0), 100);
        Check.due("oil", x.kind(0, 1), 3);
        Check.due("the brightest", x.kind(1, 0), 999);
        Check.due("the most oil", x.kind(1, 1), 99);
        Check.sentence("NoSuchElementException: no such KIND (as everywhere); IllegalArgumentException: another what.");
        for (int kind : beyond(2)) {
            Check.thrown("kind " + kind, ELEMENT, () -> x.kind(kind, 0));
            Check.thrown("kind " + kind + ", what 2", ELEMENT, () -> x.kind(kind, 2));
            Check.thrown("day of " + kind, ELEMENT, () -> x.day(kind));
            Check.thrown("bright of " + kind, ELEMENT, () -> x.bright(kind, 0));
            if (kind != NONE) {
                Check.thrown("hang of " + kind, ELEMENT, () -> x.hang(0, kind, 0));
            }
        }
        for (int what : beyond(2)) {
            Check.thrown("what " + what, ARGUMENT, () -> x.kind(0, what));
        }
        LitNextDoor four = Check.built("lamp bright 1 oil 0;".repeat(4));
        Check.due("the fourth", four.kind(3, 0), 1);
        Check.thrown("a fifth", ELEMENT, () -> four.kind(4, 0));
        Check.thrown("none at all", ELEMENT, () -> new LitNextDoor().kind(0, 0));
    }

    private static void next() {
        Check.sentence("NEXT to a ROOM are those from which a pane leads into it.");
        LitNextDoor x = Check.built(THREE);
        int[] due = {2, 5, 0};
        Check.sentence("ROOMS NEXT to a ROOM.");
        for (int room = 0; room < 3; room++) {
            Check.due("next(" + room + ")", x.next(room), due[room]);
        }
        LitNextDoor ends = Check.built("rooms 16;pane 15 to 0 lets 1;pane 0 to 15 lets 1;pane 14 to 15 lets 1 both;");
        Check.due("the first room's", ends.next(0), 1 << 15);
        Check.due("the last room's", ends.next(15), 1 << 14 | 1);
        Check.sentence("NoSuchElementException: no such ROOM (as everywhere).");
        for (int room : beyond(3)) {
            Check.thrown("next", ELEMENT, () -> x.next(room));
            Check.thrown("hated", ELEMENT, () -> x.hated(room));
            Check.thrown("hang", ELEMENT, () -> x.hang(room, 0, 0));
            Check.thrown("of", ELEMENT, () -> x.of(room, 0));
            Check.thrown("light", ELEMENT, () -> x.light(room, 0));
            Check.thrown("by", ELEMENT, () -> x.by(room, 0));
            Check.thrown("out", ELEMENT, () -> x.out(room, 0));
            Check.thrown("barred", ELEMENT, () -> x.barred(room));
            Check.thrown("walk", ELEMENT, () -> x.walk(room, 0));
            Check.thrown("walk", ELEMENT, () -> x.walk(0, room));
            Check.thrown("owed", ELEMENT, () -> x.owed(room));
            Check.thrown("round", ELEMENT, () -> x.round(room, 0));
        }
        Check.thrown("next of no house", ELEMENT, () -> new LitNextDoor().next(0));
        Check.thrown("room 16 of 16", ELEMENT, () -> ends.next(16));
    }

    private static void hated() {
        Check.sentence("ROOMS that a ROOM can't bear.");
        LitNextDoor x = Check.built("rooms 16;hates 0 15;hates 15 0;hates 15 14;");
        Check.due("the last", x.hated(0), 1 << 15);
        Check.due("first and last but one", x.hated(15), 1 << 14 | 1);
        Check.due("none", x.hated(14), 0);
    }

    private static void never() {
        Check.sentence("ROOMS to which none is NEXT.");
        Check.due("no rooms", new LitNextDoor().never(), 0);
        Check.due("one room", Check.built("rooms 1;").never(), 1);
        Check.due("all of 16", Check.built("rooms 16;").never(), 65535);
        Check.due("none of 16", Check.built(Probe.ring(16)).never(), 0);
        Check.due("a pane that leads away only", Check.built(THREE).never(), 4);
    }

    private static void hang() {
        Check.sentence("In a ROOM hangs a LAMP of a KIND, or none (at first), that burns in HOURS told as bits.");
        LitNextDoor x = Check.built(THREE);
        for (int room = 0; room < 3; room++) {
            Check.due("at first", x.of(room, 0), NONE);
        }
        for (int hour = 0; hour < 24; hour++) {
            x.hang(2, 0, 1 << hour);
            for (int other = 0; other < 24; other++) {
                Check.due("burns at " + hour, x.light(1, other), other == hour ? 33 : 0);
            }
        }
        Check.sentence("In a ROOM hangs a LAMP of a KIND (NONE: none) that burns in HOURS: the KIND it had (NONE).");
        Check.due("none before", x.hang(0, 1, 0), NONE);
        Check.due("kind 1 before", x.hang(0, 0, ALL_HOURS), 1);
        Check.due("kind 0 before", x.hang(0, 0, 1), 0);
        Check.due("kind 0 before", x.hang(0, NONE, ALL_HOURS), 0);
        Check.due("none before", x.hang(0, NONE, 0), NONE);
        Check.due("no lamp", x.of(0, 0), NONE);
        Check.due("no hours", x.of(0, 1), 0);
        Check.due("no light", x.light(1, 0), 0);
        Check.due("the last room", Check.built("rooms 16;lamp bright 1 oil 0;").hang(15, 0, ALL_HOURS), NONE);
    }

    private static void hangRefused() {
        Check.sentence("NoSuchElementException: the ROOM, the KIND; IllegalArgumentException: HOURS beyond 23.");
        LitNextDoor x = Check.built(THREE);
        x.hang(0, 1, 6);
        x.hang(0, 1, ALL_HOURS);
        x.hang(0, 1, 6);
        for (int hours : new int[] {ALL_HOURS + 1, 1 << 24 | 1, 1 << 30, -1, Integer.MIN_VALUE, Integer.MAX_VALUE}) {
            Check.thrown("hours " + hours, ARGUMENT, () -> x.hang(0, 0, hours));
            Check.thrown("hours " + hours + " of none", ARGUMENT, () -> x.hang(0, NONE, hours));
            Check.thrown("no such room is told first", ELEMENT, () -> x.hang(3, 0, hours));
            Check.thrown("no such kind is told first", ELEMENT, () -> x.hang(0, 2, hours));
        }
        for (int kind : new int[] {-2, 2, 3, 4, Integer.MIN_VALUE, Integer.MAX_VALUE}) {
            Check.thrown("kind " + kind, ELEMENT, () -> x.hang(0, kind, 6));
        }
        Check.due("it hangs as it did", x.of(0, 0), 1);
        Check.due("it hangs as it did", x.of(0, 1), 6);
        LitNextDoor dark = Check.built("rooms 1;");
        Check.thrown("no kinds at all", ELEMENT, () -> dark.hang(0, 0, 0));
        Check.due("none can hang", dark.hang(0, NONE, 0), NONE);
    }

    private static void of() {
        Check.sentence("Of a ROOM, what 0: its LAMP's KIND (NONE), 1: its HOURS (0 without), 2: burns.");
        LitNextDoor x = Check.built(THREE + "burns 0 for 0;burns 99 for 1;");
        x.hang(0, 1, ALL_HOURS);
        x.hang(1, 0, 0);
        int[][] due = {{1, ALL_HOURS, 0}, {0, 0, 99}, {NONE, 0, 10}};
        for (int room = 0; room < 3; room++) {
            for (int what = 0; what < 3; what++) {
                Check.due("of(" + room + ", " + what + ")", x.of(room, what), due[room][what]);
            }
        }
        Check.sentence("IllegalArgumentException: another what.");
        for (int what : beyond(3)) {
            Check.thrown("what " + what, ARGUMENT, () -> x.of(0, what));
            Check.thrown("no such room is told first", ELEMENT, () -> x.of(3, what));
        }
    }

    private static void light() {
        Check.sentence("LIGHT of a ROOM in an HOUR: over all panes into it from ROOMS whose LAMP burns then: bright times hundredths, "
            + "by 100 (each cut), together.");
        // 199 times 1 by 100 is 1 (cut), twice: 2; together uncut it would be 3.
        LitNextDoor x = Check.built("rooms 3;pane 0 to 1 lets 1;pane 0 to 1 lets 1;pane 2 to 1 lets 1 both;lamp bright 199 oil 0;"
            + "lamp bright 99 oil 0;lamp bright 100 oil 0;");
        x.hang(0, 0, 1);
        Check.due("cut each", x.light(1, 0), 2);
        x.hang(2, 1, 3);
        Check.due("99 hundredths are nothing", x.light(1, 0), 2);
        x.hang(2, 2, 3);
        Check.due("100 hundredths are one", x.light(1, 0), 3);
        Check.due("one of them burns", x.light(1, 1), 1);
        Check.due("none of them burns", x.light(1, 2), 0);
        Check.sentence("Its own LAMP doesn't count.");
        Check.due("its own", x.light(2, 0), 0);
        x.hang(1, 0, 1);
        Check.due("its own", x.light(1, 0), 3);
        Check.due("the other way", x.light(2, 0), 1);
        Check.due("one way only", x.light(0, 0), 0);
        LitNextDoor most = Check.built("rooms 2;lamp bright 999 oil 0;pane 0 to 1 lets 100;");
        most.hang(0, 0, 1 << 23);
        Check.due("the most through one pane", most.light(1, 23), 999);
        Check.due("ahead of the last hour", most.light(1, 22), 0);
    }

    private static void lightRefused() {
        Check.sentence("LIGHT. IllegalArgumentException: the HOUR (as everywhere).");
        LitNextDoor x = Check.built(THREE);
        Check.due("hour 0", x.light(0, 0), 0);
        Check.due("hour 23", x.light(0, 23), 0);
        for (int hour : NO_HOURS) {
            Check.thrown("light", ARGUMENT, () -> x.light(0, hour));
            Check.thrown("by", ARGUMENT, () -> x.by(0, hour));
            Check.thrown("dark", ARGUMENT, () -> x.dark(hour));
            Check.thrown("out", ARGUMENT, () -> x.out(0, hour));
            Check.thrown("spare", ARGUMENT, () -> x.spare(hour));
            Check.thrown("angry", ARGUMENT, () -> x.angry(hour));
            Check.thrown("bright", ARGUMENT, () -> x.bright(0, hour));
            Check.thrown("mixed", ARGUMENT, () -> x.mixed(hour, NONE));
            Check.thrown("carry from", ARGUMENT, () -> x.carry(1, hour, 23, NONE));
            Check.thrown("carry to", ARGUMENT, () -> x.carry(1, 0, hour, NONE));
            Check.thrown("light: the room is told first", ELEMENT, () -> x.light(3, hour));
            Check.thrown("by: the room is told first", ELEMENT, () -> x.by(3, hour));
            Check.thrown("out: the room is told first", ELEMENT, () -> x.out(3, hour));
            Check.thrown("bright: the kind is told first", ELEMENT, () -> x.bright(2, hour));
        }
        for (int hour : new int[] {0, 23}) {
            Check.due("by", x.by(0, hour), 0);
            Check.due("dark", x.dark(hour), 0);
            Check.due("out", x.out(0, hour), 0);
            Check.due("spare", x.spare(hour), 0);
            Check.due("angry", x.angry(hour), 0);
            Check.due("bright", x.bright(0, hour), 0);
            Check.due("mixed", x.mixed(hour, NONE), 0);
            Check.due("carry", x.carry(1, hour, hour, NONE), 0);
        }
    }

    private static void by() {
        Check.sentence("BY: the set of ROOMS whose LAMP burns and from which a pane leads into it.");
        LitNextDoor x = Check.built(THREE);
        for (int room = 0; room < 3; room++) {
            x.hang(room, 0, 1 << 23);
        }
        Check.sentence("BY.");
        Check.due("by(0)", x.by(0, 23), 2);
        Check.due("by(1)", x.by(1, 23), 5);
        Check.due("by(2)", x.by(2, 23), 0);
        Check.due("they don't burn", x.by(1, 22), 0);
        LitNextDoor dim = Check.built("rooms 2;pane 0 to 1 lets 1;lamp bright 1 oil 0;");
        dim.hang(0, 0, 1);
        Check.due("light that is cut to nothing", dim.light(1, 0), 0);
        Check.due("still burns there", dim.by(1, 0), 1);
    }

    private static void right() {
        Check.sentence("RIGHT is a ROOM in an HOUR, if for all its WANTS of that HOUR LIGHT is least or more, and most or less.");
        // Room 1 has 50 of kind 0 in room 0.
        int[][] wants = {{50, 50, 1}, {50, 9999, 1}, {51, 9999, 0}, {0, 50, 1}, {0, 49, 0}, {49, 51, 1}, {0, 0, 0}};
        for (int[] w : wants) {
            LitNextDoor x = Check.built(THREE + "want 1 least " + w[0] + " most " + w[1] + ";");
            x.hang(0, 0, 1);
            Check.due("least " + w[0] + " most " + w[1], x.dark(0), w[2] == 1 ? 0 : 2);
            Check.due("without light", x.dark(1), w[0] == 0 ? 0 : 2);
        }
        LitNextDoor x = Check.built(THREE + "want 1 least 50;want 1 least 0 most 50;want 1 least 20 most 49 from 3 to 3;");
        x.hang(0, 0, 0xFF);
        Check.due("two of them", x.dark(2), 0);
        Check.due("all of them", x.dark(3), 2);
        Check.due("two of them", x.dark(4), 0);
    }

    private static void wantsOfHour() {
        LitNextDoor x = Check.built(THREE + "want 2 least 1 from 5 to 6;want 0 least 1 from 6 to 7;");
        int[] due = {0, 4, 5, 1, 0};
        for (int i = 0; i < due.length; i++) {
            Check.due("hour " + (4 + i), x.dark(4 + i), due[i]);
        }
    }

    private static void dark() {
        Check.sentence("DARK are ROOMS that aren't.");
        Check.due("no rooms", new LitNextDoor().dark(0), 0);
        Check.due("no wants", Check.built("rooms 16;").dark(0), 0);
        Check.sentence("DARK ROOMS in an HOUR.");
        LitNextDoor x = Check.built("rooms 16;want 15 least 1;want 0 least 1;want 7 least 0 most 0;");
        Check.due("the first and the last", x.dark(0), 1 << 15 | 1);
        Check.due("the first and the last", x.dark(23), 1 << 15 | 1);
    }

    private static void judge() {
        Check.sentence("The first HOUR in which a ROOM is DARK, and the first such: 100 times the HOUR, and the ROOM; NONE: none.");
        Check.due("no rooms", new LitNextDoor().judge(), NONE);
        Check.due("no wants", Check.built(THREE).judge(), NONE);
        Check.due("hour 0, room 0", Check.built("rooms 1;want 0 least 1;").judge(), 0);
        Check.due("hour 23, room 15", Check.built("rooms 16;want 15 least 1 from 23 to 23;").judge(), 2315);
        Check.due("the hour comes first", Check.built("rooms 3;want 0 least 1 from 9 to 23;want 2 least 1 from 8 to 8;").judge(), 802);
        Check.due("then the room", Check.built("rooms 3;want 2 least 1 from 8 to 8;want 1 least 1 from 8 to 8;").judge(), 801);
    }

    private static void out() {
        Check.sentence("ROOMS that aren't DARK in an HOUR, and would be, if the LAMP in a ROOM were out.");
        LitNextDoor x = Check.built(THREE + "want 1 least 50;want 0 least 51;");
        Check.due("no lamp", x.out(0, 0), 0);
        x.hang(0, 0, 1);
        x.hang(1, 0, 1);
        Check.due("its light is missed", x.out(0, 0), 2);
        Check.due("who is dark anyway", x.out(1, 0), 0);
        Check.due("it doesn't burn then", x.out(0, 1), 0);
        x.hang(2, 1, 1);
        Check.due("others are enough", x.out(0, 0), 0);
        LitNextDoor ends = Check.built("rooms 16;pane 15 to 0 lets 100;pane 0 to 15 lets 100;pane 15 to 14 lets 100;lamp bright 1 oil 0;"
            + "want 0 least 1;want 15 least 1;want 14 least 1;");
        ends.hang(15, 0, 1 << 23);
        ends.hang(0, 0, 1 << 23);
        Check.due("the last room's lamp", ends.out(15, 23), 1 << 14 | 1);
        Check.due("the first room's lamp", ends.out(0, 23), 1 << 15);
        Check.due("a room without a lamp", ends.out(14, 23), 0);
        Check.due("an hour ahead of it", ends.out(15, 22), 0);
        LitNextDoor bright = Check.built(THREE + "want 1 least 0 most 49;");
        bright.hang(0, 0, 1);
        Check.due("too bright now, right then", bright.out(0, 0), 0);
    }

    private static void spare() {
        Check.sentence("ROOMS whose LAMP burns in an HOUR without which no ROOM that isn't DARK would be.");
        LitNextDoor x = Check.built(THREE + "want 1 least 33;");
        Check.due("no lamps", x.spare(0), 0);
        x.hang(0, 0, 1);
        Check.due("it is needed", x.spare(0), 0);
        x.hang(2, 0, 3);
        Check.due("each of them could go", x.spare(0), 5);
        Check.due("one is left", x.spare(1), 0);
        x.hang(1, 0, 2);
        Check.due("one that lights who wants nothing", x.spare(1), 2);
        LitNextDoor no = Check.built("rooms 16;lamp bright 1 oil 0;");
        no.hang(15, 0, 1 << 23);
        Check.due("nothing is wanted", no.spare(23), 1 << 15);
        Check.due("it doesn't burn", no.spare(22), 0);
        LitNextDoor dark = Check.built(THREE + "want 1 least 9999;");
        dark.hang(0, 0, 1);
        Check.due("who is dark anyway", dark.spare(0), 1);
    }

    private static void angry() {
        Check.sentence("ROOMS that are lit in an HOUR BY one that they can't bear.");
        LitNextDoor x = Check.built(THREE + "hates 1 0;hates 0 2;hates 2 1;");
        Check.due("nothing burns", x.angry(0), 0);
        for (int room = 0; room < 3; room++) {
            x.hang(room, 0, room == 0 ? 1 : ALL_HOURS);
        }
        Check.due("0 lights 1; 2 doesn't light 0, 1 not 2", x.angry(0), 2);
        Check.due("0 doesn't burn", x.angry(1), 0);
        LitNextDoor ends = Check.built("rooms 16;pane 15 to 0 lets 1 both;lamp bright 1 oil 0;hates 0 15;hates 15 0;");
        ends.hang(0, 0, 1 << 23);
        ends.hang(15, 0, 1 << 23);
        Check.due("light that is cut to nothing", ends.angry(23), 1 << 15 | 1);
    }

    private static void oil() {
        Check.sentence("Oil that all LAMPS burn in all their HOURS.");
        LitNextDoor x = Check.built("rooms 16;lamp bright 1 oil 99;lamp bright 1 oil 0;");
        Check.due("no lamps", x.oil(), 0);
        for (int room = 0; room < 16; room++) {
            x.hang(room, 0, ALL_HOURS);
        }
        Check.due("the most", x.oil(), 16 * 24 * 99);
        x.hang(0, 1, ALL_HOURS);
        Check.due("one that takes none", x.oil(), 15 * 24 * 99);
        x.hang(1, 0, 0);
        x.hang(2, 0, 1 << 23);
        x.hang(3, NONE, 5);
        Check.due("fewer hours", x.oil(), 12 * 24 * 99 + 99);
    }

    private static void lights() {
        Check.sentence("A set of ROOMS LIGHTS another set, if to each ROOM of that one some of the first is NEXT (a ROOM itself never is).");
        LitNextDoor x = Check.built(THREE);
        boolean[][] due = new boolean[8][8];
        int[] lit = {0, 2, 1, 3, 2, 2, 3, 3};
        for (int set = 0; set < 8; set++) {
            for (int other = 0; other < 8; other++) {
                due[set][other] = (other & ~lit[set]) == 0;
            }
        }
        Check.sentence("Does a set of ROOMS LIGHT another one.");
        for (int set = 0; set < 8; set++) {
            for (int other = 0; other < 8; other++) {
                Check.due("lights(" + set + ", " + other + ")", x.lights(set, other), due[set][other]);
            }
        }
        LitNextDoor ring = Check.built(Probe.ring(16));
        Check.due("all of 16", ring.lights(65535, 65535), true);
        Check.due("none lights none", ring.lights(0, 0), true);
        Check.due("none lights the last", ring.lights(0, 1 << 15), false);
        Check.sentence("IllegalArgumentException: a set with others.");
        for (int set : new int[] {8, 9, 16, 65536, 1 << 30, -1, Integer.MIN_VALUE, Integer.MAX_VALUE}) {
            Check.thrown("lights(" + set + ", 0)", ARGUMENT, () -> x.lights(set, 0));
            Check.thrown("lights(0, " + set + ")", ARGUMENT, () -> x.lights(0, set));
            Check.thrown("cost(" + set + ")", ARGUMENT, () -> x.cost(set));
        }
        Check.thrown("a 17th room", ARGUMENT, () -> ring.lights(65536, 0));
        LitNextDoor no = new LitNextDoor();
        Check.due("no rooms", no.lights(0, 0), true);
        Check.thrown("no rooms", ARGUMENT, () -> no.lights(1, 0));
        Check.thrown("no rooms", ARGUMENT, () -> no.lights(0, 1));
    }

    private static void count() {
        Check.sentence("0 LINES, 1 ROOMS, 2 panes, 3 KINDS, 4 WANTS, 5 HOLES, 6 dear, 7 ROOMS with a LAMP, 8 bytes on the tape;");
        LitNextDoor x = Check.built("rooms 6;pane 0 to 1 lets 1 both;pane 0 to 1 lets 1 both;" + "lamp bright 1 oil 0;".repeat(3)
            + "want 0 least 0;".repeat(5) + "hole 0 to 1 lets 1 costs 0;".repeat(7) + "hates 0 1;burns 1 for 1;dear 13;");
        x.hang(0, 0, 0);
        x.hang(1, 0, 1);
        x.hang(2, 2, ALL_HOURS);
        x.hang(5, 0, 0);
        x.hang(1, NONE, 0);
        x.feed(0, 0, 0, 0, 0);
        int[] due = {21, 6, 2, 3, 5, 7, 13, 3, 20};
        for (int what = 0; what < due.length; what++) {
            Check.due("count(" + what + ")", x.count(what), due[what]);
        }
        Check.sentence("NONE for others.");
        for (int what : beyond(9)) {
            Check.due("count(" + what + ")", x.count(what), NONE);
        }
        int[] first = {0, 0, 0, 0, 0, 0, 50, 0, 0};
        for (int what = 0; what < first.length; what++) {
            Check.due("count(" + what + ") of a new one", new LitNextDoor().count(what), first[what]);
        }
        LitNextDoor full = Check.built("rooms 16;lamp bright 1 oil 0;");
        for (int room = 0; room < 16; room++) {
            full.hang(room, 0, 0);
            Check.due("rooms with a lamp", full.count(7), room + 1);
        }
    }
}
