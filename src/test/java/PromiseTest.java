import java.util.NoSuchElementException;

/** Each promise with ordinary inputs, the edges that the document names, and wrong inputs. */
public final class PromiseTest {
    private static final Class<IllegalArgumentException> ARGUMENT = IllegalArgumentException.class;
    private static final Class<IllegalStateException> STATE = IllegalStateException.class;
    private static final Class<IndexOutOfBoundsException> BOUNDS = IndexOutOfBoundsException.class;
    private static final Class<NoSuchElementException> ELEMENT = NoSuchElementException.class;
    private static final int NONE = LitNextDoor.NONE;

    // A row of four rooms, all panes both ways, and one pane more from 0 to 1.
    private static final String ROW = "rooms 4;pane 0 to 1 lets 50 both;pane 1 to 2 lets 33 both;"
        + "pane 2 to 3 lets 100 both;pane 0 to 1 lets 10;lamp bright 100 oil 3;lamp bright 41 oil 1;";

    private PromiseTest() {
    }

    public static void main(String[] args) {
        newObject();
        feed();
        house();
        faultKinds();
        faultPlaces();
        pane();
        kind();
        nextHatedNever();
        hang();
        of();
        light();
        by();
        dark();
        judge();
        out();
        spare();
        angry();
        oil();
        lights();
        best();
        gap();
        bright();
        alwaysEverBarred();
        day();
        mixed();
        grid();
        hole();
        which();
        walk();
        carry();
        cost();
        owed();
        sooner();
        round();
        rule();
        look();
        night();
        tray();
        write();
        pour();
        images();
        count();
        Check.end("PromiseTest");
    }

    private static void newObject() {
        LitNextDoor x = new LitNextDoor();
        Check.due("NONE", LitNextDoor.NONE, -1);
        int[] counts = {0, 0, 0, 0, 0, 0, 50, 0, 0};
        for (int what = 0; what < counts.length; what++) {
            Check.due("count of a new one", x.count(what), counts[what]);
        }
        Check.due("upper of a new one", x.upper(), 0);
        Check.due("lower of a new one", x.lower(), 0);
        Check.due("fault of a new one", x.fault(0), 0);
        Check.due("place of a new one", x.fault(1), NONE);
        for (int tray = 0; tray < 4; tray++) {
            int t = tray;
            Check.thrown("a new one's tray", STATE, () -> x.pour(t));
        }
        Check.thrown("a new one's image", STATE, () -> restored(x, 0));
        Check.thrown("a new one's room", ELEMENT, () -> x.next(0));
        Check.due("carry without rooms", x.carry(1, 0, 0, NONE), NONE);
        Check.due("carry without rooms", x.carry(2, 0, 23, 5), NONE);
        Check.due("cost without rooms", x.cost(0), 0);
        Check.due("lights without rooms", x.lights(0, 0), true);
        for (int what = 0; what < 4; what++) {
            Check.due("best without rooms", x.best(what), 0);
        }
        Check.due("always without rooms", x.always(), 0);
        Check.due("ever without rooms", x.ever(), 0);
        Check.due("mixed without rooms", x.mixed(23, -2), 0);
        Check.thrown("mixed without rooms", ARGUMENT, () -> x.mixed(0, 0));
    }

    private static Object restored(LitNextDoor x, int i) {
        x.restore(i);
        return null;
    }

    private static Object imaged(LitNextDoor x, int i) {
        x.image(i);
        return null;
    }

    private static Object laid(LitNextDoor x, int tray, int sort, int many) {
        x.tray(tray, sort, many);
        return null;
    }

    private static void feed() {
        LitNextDoor x = new LitNextDoor();
        // "dear", " 12;", "dear", " 13;", blanks
        Check.due("feed", x.feed(0x64656172, 0x2031323B, 0x64656172, 0x2031333B, 0x20202020), 20);
        Check.due("house of what was fed", x.house(8), 1);
        Check.due("dear of what was fed", x.count(6), 12);
        for (int i = 1; i <= 40; i++) {
            Check.due("feed " + i, x.feed(i, i, i, i, i), 20 * i);
        }
        Check.due("the 41st feed", x.feed(1, 1, 1, 1, 1), NONE);
        Check.due("bytes behind it", x.count(8), 800);
        Check.due("a fault in what was fed", x.house(800), -11);
        Check.due("bytes behind house", x.count(8), 0);
        Check.due("signs above 127", x.feed(-1, -1, -1, -1, -1), 20);
        Check.due("signs above 127", x.house(20), -11);
    }

    private static void house() {
        LitNextDoor x = new LitNextDoor();
        Check.thrown("house beyond the tape", ARGUMENT, () -> x.house(1));
        Check.thrown("house below 0", ARGUMENT, () -> x.house(-1));
        Check.due("an empty text", x.house(0), 0);
        Check.due("a text of blanks", Check.house(x, " \n  \n"), 0);
        Check.due("a text without rooms", Check.house(x, "lamp bright 5 oil 0; dear 3;"), 2);
        Check.due("its kinds", x.count(3), 1);
        Check.due("its rooms", x.count(1), 0);
        Check.due("a text without blanks", Check.house(x, "rooms3;pane0to1lets5both;hates1 2;"), 3);
        Check.due("a text with many blanks", Check.house(x, "\n rooms \n 00016 ; want 15 least 0 ;\n"), 2);
        Check.due("rooms 16", x.count(1), 16);
        Check.due("rooms behind lines that tell none", Check.house(x, "dear 0;lamp bright 999 oil 99;rooms 1;"), 3);
        x.hang(0, 0, 1);
        Check.feed(x, "dear 8;dear 9; x".getBytes(java.nio.charset.StandardCharsets.ISO_8859_1));
        Check.thrown("house beyond the tape", ARGUMENT, () -> x.house(21));
        Check.due("the tape behind a throw", x.count(8), 20);
        Check.due("fewer than fed", x.house(7), 1);
        Check.due("the tape is empty", x.count(8), 0);
        Check.due("dear", x.count(6), 8);
        Check.due("no lamp hangs", x.count(7), 0);
        Check.house(x, "rooms 2;lamp bright 1 oil 1;");
        x.hang(1, 0, 5);
        Check.due("a fault", Check.house(x, "rooms 3;rooms 3;"), -14);
        Check.due("all stays: rooms", x.count(1), 2);
        Check.due("all stays: lamps", x.of(1, 1), 5);
        Check.due("the tape goes", x.count(8), 0);
        Check.due("the same text again", Check.house(x, "rooms 2;lamp bright 1 oil 1;"), 2);
        Check.due("no lamp hangs", x.of(1, 0), NONE);
    }

    private static void fault(String text, int kind, int place) {
        LitNextDoor x = new LitNextDoor();
        Check.due("fault of " + text, Check.house(x, text), -10 - kind);
        Check.due("fault(0) of " + text, x.fault(0), kind);
        Check.due("fault(1) of " + text, x.fault(1), place);
        Check.due("fault(2) of " + text, x.fault(2), NONE);
        Check.due("fault(-1) of " + text, x.fault(-1), NONE);
    }

    private static void faultKinds() {
        fault("Rooms 3;", 1, 0);
        fault("rooms\t3;", 1, 5);
        fault("rooms 3,", 1, 7);
        fault("rooms 000003;", 1, 6);
        fault("rooms 3;dear -1;", 1, 13);
        fault("rooms 3", 2, 7);
        fault("rooms 3;  pane 0 to 1   ", 2, 24);
        fault("rooms;", 2, 5);
        fault(";", 2, 0);
        fault("3;", 2, 0);
        fault("room 3;", 2, 0);
        fault("roomsx 3;", 2, 0);
        fault("rooms 3 4;", 2, 8);
        fault("rooms 3;pane 0 to 1 lets 5 lets 6;", 2, 27);
        fault("rooms 3;want 0 least 1 from 2 to 3 most 5;", 2, 35);
        fault("rooms 3;hole 0 to 1 lets 5 both;", 2, 27);
        fault("rooms 3;hole 0 to 1 lets 5 both costs 2;", 2, 27);
        fault("rooms 3;burns 1 to 2;", 2, 16);
        fault("rooms 3;hates 1 to 2;", 2, 16);
        fault("rooms 16;pane 15 to 16 lets 1;", 3, 20);
        fault("rooms 0;", 3, 6);
        fault("rooms 17;", 3, 6);
        fault("rooms 3;pane 0 to 1 lets 0;", 3, 25);
        fault("rooms 3;pane 0 to 1 lets 101;", 3, 25);
        fault("rooms 3;hole 2 to 2 lets 1 costs 1;", 3, 18);
        fault("rooms 3;hole 2 to 1 lets 1 costs 100;", 3, 33);
        fault("lamp bright 1000 oil 1;", 3, 12);
        fault("lamp bright 999 oil 100;", 3, 20);
        fault("rooms 3;want 0 least 10000;", 3, 21);
        fault("rooms 3;want 0 least 9999 most 9998;", 3, 31);
        fault("rooms 3;want 0 least 9999 most 10000;", 3, 31);
        fault("rooms 3;want 0 least 0 from 24 to 24;", 3, 28);
        fault("rooms 3;want 0 least 0 from 5 to 4;", 3, 33);
        fault("rooms 3;want 0 least 0 from 5 to 24;", 3, 33);
        fault("rooms 3;burns 100 for 0;", 3, 14);
        fault("rooms 3;burns 99 for 3;", 3, 21);
        fault("rooms 3;hates 3 0;", 3, 14);
        fault("rooms 3;hates 0 0;", 3, 16);
        fault("dear 1000;", 3, 5);
        fault("dear 99999;", 3, 5);
        fault("rooms 3;rooms 3;", 4, 8);
    }

    private static String times(String line, int many) {
        return line.repeat(many);
    }

    private static void faultPlaces() {
        String[] tellRooms = {"pane 0 to 1 lets 5;", "want 0 least 5;", "hole 0 to 1 lets 5 costs 5;", "burns 1 for 0;",
            "hates 0 1;"};
        for (String line : tellRooms) {
            fault(line, 2, 0);
            fault("dear 1;" + line + "rooms 2;", 2, 7);
            Check.built("rooms 2;" + line);
        }
        fault("pane @", 2, 0);
        fault("rooms 2;pane 0 to 1 x @", 2, 20);
        fault("rooms 2;pane 0 to @ x", 1, 18);
        fault("rooms 1;pane 5 to 6 lets 500;", 3, 13);
        fault(times("lamp bright 1 oil 0;", 4) + "lamp bright 0;", 4, 80);
        fault("rooms 1;" + times("want 0 least 0;", 25), 4, 8 + 24 * 15);
        fault("rooms 2;" + times("hole 0 to 1 lets 1 costs 0;", 9), 4, 8 + 8 * 27);
        Check.due("24 wants", Check.built("rooms 1;" + times("want 0 least 0;", 24)).count(4), 24);
        Check.due("8 holes", Check.built("rooms 2;" + times("hole 0 to 1 lets 1 costs 0;", 8)).count(5), 8);
        Check.due("4 lamps", Check.built(times("lamp bright 1 oil 0;", 4)).count(3), 4);
        Check.due("56 panes", Check.built("rooms2;" + times("pane0to1lets1;", 56)).count(2), 56);
        LitNextDoor x = new LitNextDoor();
        Check.house(x, "@");
        Check.thrown("house", ARGUMENT, () -> x.house(5));
        Check.due("the fault behind a throw", x.fault(0), 1);
        Check.house(x, "dear 1;");
        Check.due("the fault behind a right text", x.fault(0), 0);
        Check.due("its place", x.fault(1), NONE);
    }

    private static void pane() {
        LitNextDoor x = Check.built(ROW);
        int[][] due = {{0, 1, 50, 1}, {1, 2, 33, 1}, {2, 3, 100, 1}, {0, 1, 10, 0}};
        for (int i = 0; i < due.length; i++) {
            for (int what = 0; what < 4; what++) {
                Check.due("pane(" + i + ", " + what + ")", x.pane(i, what), due[i][what]);
            }
        }
        Check.thrown("pane(4, 0)", ELEMENT, () -> x.pane(4, 0));
        Check.thrown("pane(-1, 9)", ELEMENT, () -> x.pane(-1, 9));
        Check.thrown("pane(0, 4)", ARGUMENT, () -> x.pane(0, 4));
        Check.thrown("pane(0, -1)", ARGUMENT, () -> x.pane(0, -1));
    }

    private static void kind() {
        LitNextDoor x = Check.built(ROW);
        Check.due("kind(0, 0)", x.kind(0, 0), 100);
        Check.due("kind(0, 1)", x.kind(0, 1), 3);
        Check.due("kind(1, 0)", x.kind(1, 0), 41);
        Check.due("kind(1, 1)", x.kind(1, 1), 1);
        Check.thrown("kind(2, 0)", ELEMENT, () -> x.kind(2, 0));
        Check.thrown("kind(-1, 2)", ELEMENT, () -> x.kind(-1, 2));
        Check.thrown("kind(0, 2)", ARGUMENT, () -> x.kind(0, 2));
        Check.thrown("kind(0, -1)", ARGUMENT, () -> x.kind(0, -1));
    }

    private static void nextHatedNever() {
        LitNextDoor x = Check.built("rooms 4;pane 0 to 1 lets 1;pane 2 to 1 lets 1 both;hates 1 3;hates 1 0;hates 0 3;");
        int[] next = {0, 5, 2, 0};
        int[] hated = {8, 9, 0, 0};
        for (int room = 0; room < 4; room++) {
            Check.due("next(" + room + ")", x.next(room), next[room]);
            Check.due("hated(" + room + ")", x.hated(room), hated[room]);
        }
        Check.due("never", x.never(), 9);
        Check.due("never of a row", Check.built(ROW).never(), 0);
        for (int room : new int[] {-1, 4, Integer.MIN_VALUE, Integer.MAX_VALUE}) {
            Check.thrown("next", ELEMENT, () -> x.next(room));
            Check.thrown("hated", ELEMENT, () -> x.hated(room));
        }
    }

    private static void hang() {
        LitNextDoor x = Check.built(ROW);
        Check.due("hang first", x.hang(3, 1, 0xFFFFFF), NONE);
        Check.due("hang another", x.hang(3, 0, 1), 1);
        Check.due("hang none", x.hang(3, NONE, 7), 0);
        Check.due("hours without", x.of(3, 1), 0);
        Check.due("hang behind none", x.hang(3, 0, 4), NONE);
        Check.thrown("hang in 4", ELEMENT, () -> x.hang(4, 0, 1));
        Check.thrown("hang in -1", ELEMENT, () -> x.hang(-1, 0, -1));
        Check.thrown("hang kind 2", ELEMENT, () -> x.hang(0, 2, 1 << 24));
        Check.thrown("hang kind -2", ELEMENT, () -> x.hang(0, -2, 1));
        Check.thrown("hang in hour 24", ARGUMENT, () -> x.hang(3, 1, 1 << 24));
        Check.thrown("hang in hour 31", ARGUMENT, () -> x.hang(3, 1, -1));
        Check.thrown("hang none in hour 24", ARGUMENT, () -> x.hang(3, NONE, 1 << 24));
        Check.due("a throw changes no kind", x.of(3, 0), 0);
        Check.due("a throw changes no hours", x.of(3, 1), 4);
    }

    private static void of() {
        LitNextDoor x = Check.built(ROW + "burns 7 for 2;burns 0 for 3;burns 99 for 3;");
        Check.due("of without", x.of(0, 0), NONE);
        Check.due("of without", x.of(0, 1), 0);
        Check.due("burns without", x.of(0, 2), 10);
        Check.due("burns", x.of(2, 2), 7);
        Check.due("later ones strike", x.of(3, 2), 99);
        x.hang(0, 0, 0);
        Check.due("a lamp without hours", x.of(0, 0), 0);
        Check.thrown("of(0, 3)", ARGUMENT, () -> x.of(0, 3));
        Check.thrown("of(0, -1)", ARGUMENT, () -> x.of(0, -1));
        Check.thrown("of(4, 3)", ELEMENT, () -> x.of(4, 3));
    }

    private static void light() {
        LitNextDoor x = Check.built(ROW);
        x.hang(0, 1, 1);
        x.hang(2, 1, 3);
        // 41 times 50 by 100 is 20, times 33 is 13, times 10 is 4
        Check.due("light(1, 0)", x.light(1, 0), 20 + 13 + 4);
        Check.due("light(1, 1)", x.light(1, 1), 13);
        Check.due("light(3, 1)", x.light(3, 1), 41);
        Check.due("its own lamp", x.light(2, 1), 0);
        Check.due("nobody burns", x.light(1, 2), 0);
        x.hang(1, 0, 1 << 23);
        Check.due("the other way", x.light(0, 23), 50);
        wrongRoomAndHour(x);
    }

    private static void wrongRoomAndHour(LitNextDoor x) {
        for (int hour : new int[] {-1, 24, Integer.MAX_VALUE}) {
            Check.thrown("light", ARGUMENT, () -> x.light(0, hour));
            Check.thrown("by", ARGUMENT, () -> x.by(0, hour));
            Check.thrown("out", ARGUMENT, () -> x.out(0, hour));
            Check.thrown("dark", ARGUMENT, () -> x.dark(hour));
            Check.thrown("spare", ARGUMENT, () -> x.spare(hour));
            Check.thrown("angry", ARGUMENT, () -> x.angry(hour));
            Check.thrown("bright", ARGUMENT, () -> x.bright(0, hour));
            Check.thrown("bright", ELEMENT, () -> x.bright(9, hour));
            Check.thrown("mixed", ARGUMENT, () -> x.mixed(hour, 0));
            Check.thrown("light", ELEMENT, () -> x.light(4, hour));
            Check.thrown("by", ELEMENT, () -> x.by(-1, hour));
            Check.thrown("out", ELEMENT, () -> x.out(16, hour));
        }
    }

    private static void by() {
        LitNextDoor x = Check.built(ROW);
        x.hang(0, 1, 1);
        x.hang(2, 1, 3);
        x.hang(1, 1, 0);
        Check.due("by(1, 0)", x.by(1, 0), 5);
        Check.due("by(1, 1)", x.by(1, 1), 4);
        Check.due("by(0, 0)", x.by(0, 0), 0);
        // Light that is cut to 0 still comes from there.
        LitNextDoor y = Check.built("rooms 2;pane 0 to 1 lets 1;lamp bright 1 oil 0;");
        y.hang(0, 0, 1);
        Check.due("no light", y.light(1, 0), 0);
        Check.due("by, though no light", y.by(1, 0), 1);
    }

    private static void dark() {
        LitNextDoor x = Check.built(ROW + "want 1 least 37 most 37;want 3 least 0 most 40 from 1 to 2;want 3 least 41;");
        Check.due("dark without lamps", x.dark(0), 10);
        x.hang(0, 1, 1);
        x.hang(2, 1, 7);
        Check.due("all right", x.dark(0), 0);
        Check.due("of two wants both count", x.dark(1), 10);
        Check.due("the last hour of a want", x.dark(2), 10);
        x.hang(2, 0, 7);
        Check.due("too bright", x.dark(0), 2);
    }

    private static void judge() {
        LitNextDoor x = Check.built(ROW + "want 3 least 1 from 5 to 6;want 1 least 1 from 5 to 5;want 2 least 9 from 23 to 23;");
        Check.due("judge", x.judge(), 501);
        x.hang(2, 1, 1 << 5);
        Check.due("judge", x.judge(), 603);
        x.hang(2, 1, 3 << 5);
        Check.due("judge", x.judge(), 2302);
        x.hang(3, 1, 1 << 23);
        Check.due("judge", x.judge(), NONE);
        Check.due("judge without wants", Check.built(ROW).judge(), NONE);
    }

    private static void out() {
        LitNextDoor x = Check.built(ROW + "want 1 least 20;want 3 least 41 most 41;want 0 least 1;");
        x.hang(0, 1, 1);
        x.hang(2, 1, 1);
        Check.due("out(0, 0)", x.out(0, 0), 2);
        Check.due("out(2, 0): 1 has enough", x.out(2, 0), 8);
        Check.due("out(1, 0): no lamp", x.out(1, 0), 0);
        Check.due("out(0, 1): none burns", x.out(0, 1), 0);
    }

    private static void spare() {
        LitNextDoor x = Check.built(ROW + "want 1 least 13;want 3 least 41;want 0 least 99;");
        x.hang(0, 1, 3);
        x.hang(2, 1, 1);
        x.hang(3, 0, 1);
        Check.due("spare(0)", x.spare(0), 9);
        Check.due("spare(1)", x.spare(1), 0);
        Check.due("spare(2)", x.spare(2), 0);
        LitNextDoor y = Check.built("rooms 3;pane 0 to 1 lets 1;pane 2 to 1 lets 1;lamp bright 100 oil 0;want 1 least 0 most 0;");
        y.hang(0, 0, 1);
        y.hang(2, 0, 1);
        Check.due("a dark room doesn't count", y.spare(0), 5);
    }

    private static void angry() {
        LitNextDoor x = Check.built(ROW + "hates 1 2;hates 2 0;hates 3 2;");
        Check.due("angry without lamps", x.angry(0), 0);
        x.hang(2, 1, 1);
        x.hang(0, 1, 3);
        Check.due("angry(0)", x.angry(0), 10);
        Check.due("angry(1): 0 lights but 1", x.angry(1), 0);
    }

    private static void oil() {
        LitNextDoor x = Check.built(ROW);
        Check.due("oil without lamps", x.oil(), 0);
        x.hang(0, 0, 0xFFFFFF);
        x.hang(3, 1, 0x800001);
        x.hang(2, 1, 0);
        Check.due("oil", x.oil(), 3 * 24 + 2);
    }

    private static void lights() {
        LitNextDoor x = Check.built(ROW);
        Check.due("lights(6, 15)", x.lights(6, 15), true);
        Check.due("lights(2, 5)", x.lights(2, 5), true);
        Check.due("lights(2, 2): itself never", x.lights(2, 2), false);
        Check.due("lights(0, 0)", x.lights(0, 0), true);
        Check.due("lights(0, 1)", x.lights(0, 1), false);
        for (int set : new int[] {16, -1, Integer.MIN_VALUE}) {
            Check.thrown("lights", ARGUMENT, () -> x.lights(set, 0));
            Check.thrown("lights", ARGUMENT, () -> x.lights(0, set));
        }
    }

    private static String ring(int n) {
        StringBuilder text = new StringBuilder("rooms " + n + ";");
        for (int i = 0; i < n; i++) {
            text.append("pane ").append(i).append(" to ").append((i + 1) % n).append(" lets 50 both;");
        }
        return text.toString();
    }

    private static void best() {
        LitNextDoor x = Check.built(ROW);
        Check.due("FEWEST", x.best(0), 6);
        Check.due("TWICE", x.best(1), NONE);
        Check.due("APART", x.best(2), 6);
        Check.due("LONE", x.best(3), 3);
        LitNextDoor ring = Check.built(ring(4) + "hates 0 1;hates 3 1;hates 3 2;");
        Check.due("FEWEST", ring.best(0), 3);
        Check.due("TWICE", ring.best(1), 15);
        // Neither 1 nor 2 may be in the set, as 1 lights 0 and 2 lights 3; 0 and 3 do without them.
        Check.due("APART", ring.best(2), 9);
        Check.due("LONE", ring.best(3), 3);
        Check.due("APART without any", Check.built(ROW + "hates 0 1;").best(2), NONE);
        Check.due("who isn't next is borne", Check.built(ROW + "hates 3 1;hates 0 2;").best(2), 6);
        LitNextDoor two = Check.built("rooms 2;pane 0 to 1 lets 5;");
        Check.due("FEWEST without any", two.best(0), NONE);
        Check.due("LONE with rooms without any next", two.best(3), 3);
        LitNextDoor lines = Check.built("rooms 3;pane 0 to 1 lets 5;pane 0 to 1 lets 5;pane 1 to 0 lets 5;pane 0 to 2 lets 9;");
        Check.due("two panes from one room are of one", lines.best(1), NONE);
        Check.thrown("best(4)", ARGUMENT, () -> x.best(4));
        Check.thrown("best(-1)", ARGUMENT, () -> x.best(-1));
    }

    private static void gap() {
        Check.due("gap of a row", Check.built(ROW).gap(), 0);
        // A ring of five takes three lamps, but no three rooms are lone.
        Check.due("gap of a ring", Check.built(ring(5)).gap(), 1);
        Check.due("gap without any", Check.built("rooms 2;pane 0 to 1 lets 5;").gap(), NONE);
    }

    private static void bright() {
        LitNextDoor x = Check.built(ROW + "want 1 least 24 from 1 to 9;want 1 least 0 most 36 from 3 to 9;"
            + "want 3 least 42 from 5 to 5;want 0 least 5 most 4999 from 9 to 9;");
        Check.due("nothing is wanted", x.bright(0, 0), 0);
        Check.due("0 gives 41 times 50 and 10", x.bright(1, 1), 1);
        Check.due("0 gives 60: too bright, 2 gives 33", x.bright(0, 3), 4);
        Check.due("0 gives 24", x.bright(1, 3), 1);
        Check.due("never so bright", x.bright(1, 5), NONE);
        Check.due("two of them", x.bright(0, 9), 6);
        Check.thrown("bright(2, 0)", ELEMENT, () -> x.bright(2, 0));
        Check.thrown("bright(-1, 0)", ELEMENT, () -> x.bright(-1, 0));
        LitNextDoor y = Check.built(ROW + "want 1 least 5 most 5;want 1 least 6 most 9;");
        Check.due("wants that never go together", y.bright(0, 0), NONE);
        y.hang(0, 0, 1);
        Check.due("told lamps don't count", y.bright(1, 0), NONE);
    }

    private static void alwaysEverBarred() {
        LitNextDoor x = Check.built(ROW);
        Check.due("always", x.always(), 6);
        Check.due("ever", x.ever(), 6);
        Check.due("barred(0)", x.barred(0), 2);
        Check.due("barred(1)", x.barred(1), NONE);
        LitNextDoor ring = Check.built(ring(5));
        Check.due("always of a ring", ring.always(), 0);
        Check.due("ever of a ring", ring.ever(), 31);
        Check.due("barred in a ring", ring.barred(4), 3);
        LitNextDoor dear = Check.built("rooms 4;pane 0 to 1 lets 1;pane 0 to 2 lets 1;pane 0 to 3 lets 1;pane 1 to 0 lets 1;"
            + "pane 2 to 3 lets 1;pane 3 to 1 lets 1;pane 3 to 2 lets 1;");
        Check.due("always", dear.always(), 3);
        Check.due("ever", dear.ever(), 3);
        Check.due("barred(0)", dear.barred(0), 3);
        Check.due("never may be always", Check.built("rooms 1;").always(), 0);
        Check.due("no ever", Check.built("rooms 1;").ever(), 0);
        Check.thrown("barred(4)", ELEMENT, () -> x.barred(4));
        Check.thrown("barred(-1)", ELEMENT, () -> x.barred(-1));
    }

    private static void day() {
        LitNextDoor x = Check.built(ROW + "want 1 least 24 from 1 to 9;want 3 least 1 from 9 to 23;want 0 least 1 from 23 to 23;");
        // By kind 1 room 2 gives too little to 1: so 0 in hours 1 to 9, 2 from 9 on, 1 in hour 23.
        Check.due("day(1)", x.day(1), 9 + 15 + 1);
        // By kind 0 room 2 gives 33 to 1 and 100 to 3: one lamp in hours 1 to 22, two in hour 23.
        Check.due("day(0)", x.day(0), 3 * (23 + 1));
        Check.due("an hour without", Check.built(ROW + "want 0 least 51 from 23 to 23;").day(0), NONE);
        Check.due("no wants", Check.built(ROW).day(0), 0);
        Check.thrown("day(2)", ELEMENT, () -> x.day(2));
        Check.thrown("day(-1)", ELEMENT, () -> x.day(-1));
    }

    private static void mixed() {
        LitNextDoor x = Check.built(ROW + "lamp bright 100 oil 1;want 1 least 60;want 3 least 41 from 1 to 1;want 0 least 99 from 5 to 5;");
        Check.due("oil", x.mixed(0, NONE), 1);
        Check.due("lamps", x.mixed(0, -2), 1);
        Check.due("kind in 0", x.mixed(0, 0), 2);
        Check.due("kind in 1", x.mixed(0, 1), NONE);
        Check.due("oil", x.mixed(1, NONE), 2);
        Check.due("the first of like ones", x.mixed(1, 2), 1);
        Check.due("it can't be: oil", x.mixed(5, NONE), NONE);
        Check.due("it can't be: lamps", x.mixed(5, -2), NONE);
        Check.due("it can't be: kind", x.mixed(5, 3), NONE);
        LitNextDoor free = Check.built("rooms 3;pane 0 to 1 lets 50;pane 2 to 1 lets 50;lamp bright 100 oil 0;lamp bright 200 oil 0;"
            + "want 1 least 100;");
        Check.due("no oil", free.mixed(0, NONE), 0);
        Check.due("fewer lamps first", free.mixed(0, -2), 1);
        Check.due("none in 0 is ahead", free.mixed(0, 0), NONE);
        Check.due("so 2 has it", free.mixed(0, 2), 1);
        Check.thrown("mixed(0, 4)", ARGUMENT, () -> x.mixed(0, 4));
        Check.thrown("mixed(0, -3)", ARGUMENT, () -> x.mixed(0, -3));
        Check.thrown("more than 8 rooms", ARGUMENT, () -> Check.built("rooms 9;").mixed(0, NONE));
        Check.due("8 rooms", Check.built("rooms 8;").mixed(0, NONE), 0);
        Check.due("no kinds", Check.built("rooms 2;pane 0 to 1 lets 1;want 1 least 1;").mixed(0, NONE), NONE);
    }

    private static void grid() {
        LitNextDoor x = new LitNextDoor();
        Check.due("grid(1, 1)", x.grid(1, 1), NONE);
        Check.due("grid(2, 1)", x.grid(2, 1), 3);
        Check.due("grid(4, 1)", x.grid(4, 1), 6);
        Check.due("grid(1, 4)", x.grid(1, 4), 6);
        Check.due("grid(2, 2)", x.grid(2, 2), 3);
        Check.due("grid(3, 2)", x.grid(3, 2), 1 << 1 | 1 << 4);
        Check.due("grid(2, 3)", x.grid(2, 3), 1 << 2 | 1 << 3);
        Check.due("grid(4, 4)", Integer.bitCount(x.grid(4, 4)), 6);
        Check.due("grid(16, 1)", Integer.bitCount(x.grid(16, 1)), 8);
        int[][] wrong = {{0, 1}, {1, 0}, {-2, -2}, {17, 1}, {1, 17}, {4, 5}, {65536, 65536}, {Integer.MIN_VALUE, 2}};
        for (int[] w : wrong) {
            Check.thrown("grid", ARGUMENT, () -> x.grid(w[0], w[1]));
        }
    }

    private static void hole() {
        LitNextDoor x = Check.built("rooms 4;pane 0 to 1 lets 1;pane 1 to 2 lets 1;pane 2 to 3 lets 1;pane 3 to 0 lets 1;"
            + "hole 0 to 3 lets 77 costs 9;hole 0 to 2 lets 8 costs 4 both;hole 0 to 1 lets 5 costs 0;");
        int[][] due = {{0, 3, 77, 9, 1}, {0, 2, 8, 4, 2}, {0, 1, 5, 0, 0}};
        for (int i = 0; i < due.length; i++) {
            for (int what = 0; what < 5; what++) {
                Check.due("hole(" + i + ", " + what + ")", x.hole(i, what), due[i][what]);
            }
        }
        Check.due("holes are no panes", x.next(3), 4);
        Check.thrown("hole(3, 0)", ELEMENT, () -> x.hole(3, 0));
        Check.thrown("hole(-1, 9)", ELEMENT, () -> x.hole(-1, 9));
        Check.thrown("hole(0, 5)", ARGUMENT, () -> x.hole(0, 5));
        Check.thrown("hole(0, -1)", ARGUMENT, () -> x.hole(0, -1));
        LitNextDoor none = Check.built("rooms 3;pane 0 to 1 lets 1;hole 1 to 0 lets 1 costs 1;hole 1 to 2 lets 1 costs 1;");
        Check.due("none then", none.hole(0, 4), 0);
        Check.due("none then", none.hole(1, 4), 0);
        LitNextDoor then = Check.built("rooms 2;pane 0 to 1 lets 1;hole 0 to 1 lets 1 costs 1;hole 0 to 1 lets 1 costs 1 both;");
        Check.due("none now, none then", then.hole(0, 4), 0);
        Check.due("none now, one then", then.hole(1, 4), 100);
    }

    private static void which() {
        String ring = "rooms 4;pane 0 to 1 lets 1;pane 1 to 2 lets 1;pane 2 to 3 lets 1;pane 3 to 0 lets 1;";
        Check.due("no holes", Check.built(ring).which(), NONE);
        Check.due("none saves", Check.built(ring + "hole 0 to 1 lets 1 costs 0;").which(), NONE);
        Check.due("the cheaper", Check.built(ring + "hole 0 to 3 lets 1 costs 5;hole 0 to 2 lets 1 costs 4;").which(), 1);
        Check.due("then the first", Check.built(ring + "hole 0 to 1 lets 1 costs 0;hole 0 to 3 lets 1 costs 4;"
            + "hole 0 to 2 lets 1 costs 4;").which(), 1);
        String six = "rooms 6;pane 0 to 1 lets 1;pane 1 to 0 lets 1;pane 2 to 3 lets 1;pane 3 to 2 lets 1;"
            + "pane 4 to 5 lets 1;pane 5 to 4 lets 1;";
        Check.due("the most saves, whatever it costs", Check.built(six
            + "hole 0 to 2 lets 1 costs 0;hole 0 to 2 lets 1 costs 9 both;").which(), 1);
    }

    private static void walk() {
        LitNextDoor x = Check.built("rooms 5;pane 0 to 1 lets 1;pane 2 to 1 lets 1;pane 3 to 2 lets 1;");
        int[] due = {0, 1, 2, 3, NONE};
        for (int room = 0; room < 5; room++) {
            Check.due("walk from 0", x.walk(0, room), due[room]);
            Check.due("walk to 0", x.walk(room, 0), due[room]);
        }
        Check.due("walk to itself", x.walk(4, 4), 0);
        Check.thrown("walk(5, 0)", ELEMENT, () -> x.walk(5, 0));
        Check.thrown("walk(0, -1)", ELEMENT, () -> x.walk(0, -1));
    }

    private static void carry() {
        LitNextDoor x = Check.built(ROW + "want 0 least 1 from 1 to 2;want 3 least 1 from 3 to 4;want 0 least 1 from 5 to 5;"
            + "want 2 least 0 from 0 to 23;want 1 least 1 from 7 to 7;want 2 least 1 from 7 to 7;");
        Check.due("one lamp", x.carry(1, 1, 5, NONE), 2);
        int[] one = {1, 1, 2, 2, 1};
        for (int i = 0; i < one.length; i++) {
            Check.due("one lamp's place", x.carry(1, 1, 5, i), one[i]);
        }
        Check.due("one lamp to an earlier hour", x.carry(1, 1, 3, NONE), 1);
        Check.due("one lamp from a later hour", x.carry(1, 3, 3, NONE), 0);
        Check.due("one lamp's place there", x.carry(1, 3, 3, 0), 2);
        Check.due("one lamp for all these hours", x.carry(1, 2, 5, NONE), 2);
        Check.due("two lamps", x.carry(2, 1, 5, NONE), 0);
        for (int i = 0; i < 10; i++) {
            Check.due("two lamps' places", x.carry(2, 1, 5, i), i % 2 == 0 ? 1 : 2);
        }
        Check.due("both in one room", x.carry(2, 0, 0, 1), 0);
        Check.due("nothing is wanted", x.carry(2, 0, 0, NONE), 0);
        Check.due("one is too few", x.carry(1, 7, 7, NONE), NONE);
        Check.due("one is too few", x.carry(1, 0, 23, 0), NONE);
        Check.due("two do", x.carry(2, 7, 7, NONE), 0);
        Check.due("two do", x.carry(2, 7, 7, 0), 0);
        Check.due("two do", x.carry(2, 7, 7, 1), 1);
        int[][] wrong = {{0, 1, 1, -1}, {3, 1, 1, -1}, {1, -1, 1, -1}, {1, 0, 24, -1}, {1, 2, 1, -1}, {1, 1, 1, -2},
            {1, 1, 1, 1}, {2, 1, 2, 4}};
        for (int[] w : wrong) {
            Check.thrown("carry", ARGUMENT, () -> x.carry(w[0], w[1], w[2], w[3]));
        }
        LitNextDoor apart = Check.built("rooms 4;pane 0 to 1 lets 1;pane 2 to 3 lets 1;want 1 least 1 from 0 to 0;want 3 least 1 from 1 to 1;");
        Check.due("there is no way", apart.carry(1, 0, 1, NONE), NONE);
        Check.due("a lamp for each", apart.carry(2, 0, 1, NONE), 0);
        Check.due("a lamp for each", apart.carry(2, 0, 1, 3), 2);
    }

    private static void cost() {
        LitNextDoor x = Check.built(ROW + "burns 4 for 1;burns 29 for 2;burns 31 for 0;dear 30;");
        Check.due("cost(0)", x.cost(0), 0);
        Check.due("nobody is next to it", x.cost(1), 30);
        Check.due("the second lights the first", x.cost(3), 34);
        Check.due("1 lights 0 and 2, and 2 lights 1", x.cost(7), 33);
        Check.due("2 lights 1 and 3", x.cost(15), 4 + 29);
        Check.due("0 and 2 only", x.cost(5), 60);
        Check.thrown("cost(16)", ARGUMENT, () -> x.cost(16));
        Check.thrown("cost(-1)", ARGUMENT, () -> x.cost(-1));
        Check.due("dear 0", Check.built(ROW + "dear 0;").cost(15), 0);
        Check.due("of 16", Check.built(ring(16) + "dear 999;").cost(65535), 80);
    }

    private static void owed() {
        LitNextDoor x = Check.built("rooms 3;pane 0 to 1 lets 1;pane 1 to 0 lets 1;pane 0 to 2 lets 1;dear 30;");
        // By twos: 0 and 1 save 40, 0 and 2 save 20, 1 and 2 nothing; all three 70.
        Check.due("owed(0)", x.owed(0), true);
        Check.due("upper", x.upper(), 100);
        Check.due("lower", x.lower(), 3);
        Check.due("owed(1)", x.owed(1), true);
        Check.due("upper", x.upper(), 70);
        Check.due("lower", x.lower(), 3);
        Check.due("owed(2)", x.owed(2), true);
        Check.due("upper", x.upper(), 40);
        Check.due("lower", x.lower(), 3);
        Check.thrown("owed(3)", ELEMENT, () -> x.owed(3));
        Check.due("a throw changes nothing", x.upper(), 40);
        Check.house(x, "rooms 1;");
        Check.due("the fraction stays", x.lower(), 3);
        Check.due("owed nothing", x.owed(0), true);
        Check.due("upper", x.upper(), 0);
        Check.due("lower", x.lower(), 1);
        Check.house(x, ring(11));
        Check.due("more than 10", x.owed(10), false);
        Check.due("upper", x.upper(), 0);
        Check.due("lower", x.lower(), 0);
        Check.thrown("owed(11)", ELEMENT, () -> x.owed(11));
        Check.house(x, ring(10));
        Check.due("10 rooms", x.owed(9), true);
        // All are alike, and together they take six lamps.
        Check.due("upper", x.upper(), (500 - 60) / 10);
        Check.due("lower", x.lower(), 1);
    }

    private static void sooner() {
        LitNextDoor x = Check.built("rooms 3;pane 0 to 1 lets 1;pane 1 to 0 lets 1;pane 0 to 2 lets 1;dear 30;");
        x.tray(3, 3, 4);
        Check.due("the least set that saves", x.sooner(3), 3);
        x.write(3, 0, 40);
        Check.due("20 of 0 and 2 are told", x.sooner(3), 7);
        x.write(3, 2, 29);
        Check.due("69 of 70", x.sooner(3), 7);
        x.write(3, 2, 30);
        Check.due("as much", x.sooner(3), NONE);
        x.write(3, 1, -9999);
        Check.due("less than nothing is told", x.sooner(3), 2);
        x.write(3, 3, 10000);
        Check.due("a number for no room", x.sooner(3), 2);
        x.write(3, 1, 9999);
        Check.due("9999", x.sooner(3), NONE);
        x.write(3, 1, -10000);
        Check.thrown("-10000", ARGUMENT, () -> x.sooner(3));
        x.write(3, 1, 1L << 32);
        Check.thrown("4294967296", ARGUMENT, () -> x.sooner(3));
        x.tray(1, 0, 2);
        Check.thrown("two numbers for three", BOUNDS, () -> x.sooner(1));
        Check.thrown("missing", STATE, () -> x.sooner(0));
        Check.thrown("sooner(4)", ELEMENT, () -> x.sooner(4));
        Check.thrown("sooner(-1)", ELEMENT, () -> x.sooner(-1));
        Check.house(x, "rooms 11;");
        Check.thrown("two numbers for eleven", BOUNDS, () -> x.sooner(1));
        x.tray(1, 0, 11);
        Check.thrown("eleven rooms", ARGUMENT, () -> x.sooner(1));
        Check.house(x, ring(10));
        x.tray(1, 0, 10);
        Check.due("ten rooms: 0 and 1 light each other", x.sooner(1), 3);
        LitNextDoor none = new LitNextDoor();
        none.tray(0, 0, 0);
        Check.due("no rooms, no set", none.sooner(0), NONE);
    }

    private static void round() {
        LitNextDoor x = Check.built(ROW);
        int[] from1 = {1, 2, 1};
        Check.due("round from 1", x.round(1, NONE), 2);
        for (int i = 0; i < 3; i++) {
            Check.due("round from 1", x.round(1, i), from1[i]);
        }
        Check.due("not so many steps", x.round(1, 3), NONE);
        Check.due("not so many steps", x.round(1, Integer.MAX_VALUE), NONE);
        int[] from0 = {0, 1, 2, 1, 0};
        Check.due("round from 0", x.round(0, NONE), 4);
        for (int i = 0; i < 5; i++) {
            Check.due("round from 0", x.round(0, i), from0[i]);
        }
        Check.due("one room is never lit", Check.built("rooms 1;").round(0, NONE), NONE);
        Check.due("one room is never lit", Check.built("rooms 1;").round(0, 0), NONE);
        Check.due("the first of like ones", Check.built(ring(4)).round(1, 1), 0);
        Check.due("against the panes", Check.built("rooms 3;pane 0 to 1 lets 1;pane 1 to 2 lets 1;pane 2 to 0 lets 1;").round(0, NONE), 3);
        Check.due("12 rooms", Check.built(ring(12)).round(3, NONE), 12);
        Check.thrown("13 rooms", ARGUMENT, () -> Check.built("rooms 13;").round(0, NONE));
        Check.thrown("round(0, -2)", ARGUMENT, () -> x.round(0, -2));
        Check.thrown("round(4, -2)", ELEMENT, () -> x.round(4, -2));
        Check.thrown("round(-1, 0)", ELEMENT, () -> x.round(-1, 0));
        Check.thrown("room 13 of 13", ELEMENT, () -> Check.built("rooms 13;").round(13, NONE));
    }

    private static void rule() {
        LitNextDoor x = new LitNextDoor();
        Check.due("a row of one", x.rule(1, false, 1, 1), 0);
        Check.due("a row of two", x.rule(2, false, 1, 1), NONE);
        Check.due("0110", x.rule(4, false, 4, 6), NONE);
        Check.due("01100", x.rule(5, false, 4, 6), 4);
        Check.due("no lamps", x.rule(40, true, 8, 0), 0);
        Check.due("a ring of 40", x.rule(40, true, 4, 6), NONE);
        Check.due("a ring of 38", x.rule(38, true, 4, 3), NONE);
        Check.due("a ring of 37", x.rule(37, true, 4, 6), 36);
        Check.due("bits beyond the row", x.rule(2, false, 8, 0xFC), 0);
        int[][] wrong = {{0, 0, 1, 1}, {41, 0, 1, 1}, {2, 1, 1, 1}, {41, 1, 1, 1}, {5, 0, 0, 0}, {5, 0, 9, 1}, {5, 0, 2, 4},
            {5, 0, 2, -1}, {-1, 0, -1, -1}, {5, 0, 33, 1}};
        for (int[] w : wrong) {
            Check.thrown("rule", ARGUMENT, () -> x.rule(w[0], w[1] == 1, w[2], w[3]));
        }
    }

    private static void look() {
        LitNextDoor x = new LitNextDoor();
        int[][] due = {{1, 0, NONE, NONE, NONE}, {2, 0, 2, 1, 1}, {4, 0, 2, 3, 6}, {3, 1, 2, 2, 1}, {40, 1, 20, 4, 3}};
        for (int[] d : due) {
            for (int what = 0; what < 3; what++) {
                Check.due("look(" + d[0] + ", .., " + what + ")", x.look(d[0], d[1] == 1, what), d[2 + what]);
            }
        }
        Check.thrown("look(0)", ARGUMENT, () -> x.look(0, false, 0));
        Check.thrown("look(41)", ARGUMENT, () -> x.look(41, false, 0));
        Check.thrown("look(2, ring)", ARGUMENT, () -> x.look(2, true, 0));
        Check.thrown("look what 3", ARGUMENT, () -> x.look(5, false, 3));
        Check.thrown("look what -1", ARGUMENT, () -> x.look(5, false, -1));
    }

    private static void night() {
        LitNextDoor x = Check.built("rooms 2;pane 0 to 1 lets 100 both;lamp bright 9 oil 0;want 0 least 1 from 0 to 1;want 1 least 1 from 0 to 1;");
        x.hang(0, 0, 3);
        x.hang(1, 0, 3);
        int[] draws = new int[4];
        int s = 1;
        for (int i = 0; i < 4; i++) {
            s = s * 1103515245 + 12345;
            draws[i] = (s >>> 16) % 100;
        }
        for (int fail = 0; fail <= 100; fail++) {
            int out = 0;
            for (int d : draws) {
                out += d < fail ? 1 : 0;
            }
            int hours = (draws[0] < fail || draws[1] < fail ? 1 : 0) + (draws[2] < fail || draws[3] < fail ? 1 : 0);
            Check.due("night 0", x.night(1, fail, 0), out);
            Check.due("night 1", x.night(1, fail, 1), hours);
            Check.due("night 2", x.night(1, fail, 2), out);
        }
        Check.due("the lamps hang as they did", x.dark(0), 0);
        Check.thrown("night fail -1", ARGUMENT, () -> x.night(1, -1, 0));
        Check.thrown("night fail 101", ARGUMENT, () -> x.night(1, 101, 0));
        Check.thrown("night what 3", ARGUMENT, () -> x.night(1, 0, 3));
        Check.thrown("night what -1", ARGUMENT, () -> x.night(1, 0, -1));
    }

    private static void tray() {
        LitNextDoor x = new LitNextDoor();
        x.tray(0, 3, 40);
        Check.due("a place", x.write(0, 39, 5), 5);
        Check.thrown("no place", BOUNDS, () -> x.write(0, 40, 5));
        x.tray(0, 0, 0);
        Check.thrown("an empty one", BOUNDS, () -> x.write(0, 0, 5));
        Check.due("an empty one is poured", x.pour(0), 0);
        Check.thrown("tray(4)", ELEMENT, () -> laid(x, 4, 9, 99));
        Check.thrown("tray(-1)", ELEMENT, () -> laid(x, -1, 0, 0));
        Check.thrown("sort 4", ARGUMENT, () -> laid(x, 0, 4, 1));
        Check.thrown("sort -1", ARGUMENT, () -> laid(x, 0, -1, 1));
        Check.thrown("41", ARGUMENT, () -> laid(x, 0, 0, 41));
        Check.thrown("-1", ARGUMENT, () -> laid(x, 0, 0, -1));
        Check.thrown("a throw changes nothing", BOUNDS, () -> x.write(0, 0, 5));
        LitNextDoor y = Check.built("rooms 1;lamp bright 1 oil 0;");
        y.tray(1, 2, 2);
        y.write(1, 1, 77);
        y.tray(1, 2, 2);
        y.pour(1);
        Check.due("a new row is of 0s", y.of(0, 1), 0);
    }

    private static void write() {
        LitNextDoor x = new LitNextDoor();
        long[] bits = {8, 16, 32, 64};
        for (int sort = 0; sort < 4; sort++) {
            x.tray(sort, sort, 3);
            long high = 1L << bits[sort] - 1;
            Check.due("the highest", x.write(sort, 0, high - 1), high - 1);
            Check.due("one more", x.write(sort, 1, high), sort == 3 ? Long.MIN_VALUE : -high);
            Check.due("all bits", x.write(sort, 2, -1), -1);
            Check.due("cut", x.write(sort, 2, 0x123456789ABCDEFL << 8 | 5), sort == 3 ? 0x123456789ABCDEFL << 8 | 5
                : sort == 2 ? 0x9ABCDEF05L << 32 >> 32 : sort == 1 ? (short) 0xEF05 : 5);
            int s = sort;
            Check.thrown("place 3", BOUNDS, () -> x.write(s, 3, 0));
            Check.thrown("place -1", BOUNDS, () -> x.write(s, -1, 0));
        }
        Check.thrown("write(4)", ELEMENT, () -> x.write(4, 99, 0));
        Check.thrown("write(-1)", ELEMENT, () -> x.write(-1, 0, 0));
        Check.thrown("missing", STATE, () -> new LitNextDoor().write(3, -1, 0));
    }

    private static void put(LitNextDoor x, int tray, int sort, long... numbers) {
        x.tray(tray, sort, numbers.length);
        for (int i = 0; i < numbers.length; i++) {
            x.write(tray, i, numbers[i]);
        }
    }

    private static void pour() {
        LitNextDoor x = Check.built(ROW);
        x.hang(1, 1, 9);
        x.hang(3, 1, 8);
        put(x, 0, 2, 0, 0xFFFFFF, -1, 6, 1, 5);
        Check.due("three", x.pour(0), 3);
        int[][] due = {{0, 0xFFFFFF}, {NONE, 0}, {1, 5}, {1, 8}};
        for (int room = 0; room < 4; room++) {
            Check.due("kind poured", x.of(room, 0), due[room][0]);
            Check.due("hours poured", x.of(room, 1), due[room][1]);
        }
        put(x, 0, 3, 1, 1, 1);
        Check.thrown("within two", BOUNDS, () -> x.pour(0));
        long[][] wrong = {{1, 1, 2, 0}, {1, 1, -2, 0}, {1, 1, 0, 1 << 24}, {1, 1, 0, -1}, {1, 1, 0, 1L << 32},
            {1, 1, 1L << 32, 1}, {1, 1, -1, -1}, {2, 1}, {0, -1, 0, 1}, {0, 1, 0, 1, 0, 1, 0, 1, 0, 1}};
        for (long[] w : wrong) {
            put(x, 0, 3, w);
            Check.thrown("pour", ARGUMENT, () -> x.pour(0));
            Check.due("a throw changes nothing", x.of(0, 1), 0xFFFFFF);
        }
        put(x, 0, 3, 0, 1, 0, 1, 0, 1, 0, 1, 0);
        Check.thrown("nine: within two", BOUNDS, () -> x.pour(0));
        Check.thrown("missing", STATE, () -> x.pour(1));
        Check.thrown("pour(4)", ELEMENT, () -> x.pour(4));
        Check.thrown("pour(-1)", ELEMENT, () -> x.pour(-1));
    }

    private static void images() {
        LitNextDoor x = Check.built(ROW);
        x.hang(2, 1, 6);
        x.image(2);
        x.image(0);
        x.hang(2, 0, 7);
        x.image(0);
        put(x, 1, 0, 44);
        Check.house(x, "rooms 2;pane 0 to 1 lets 1 both;dear 3;");
        x.owed(1);
        Check.house(x, "@");
        x.feed(0, 0, 0, 0, 0);
        x.restore(2);
        Check.due("rooms", x.count(1), 4);
        Check.due("lines", x.count(0), 7);
        Check.due("dear", x.count(6), 50);
        Check.due("kind", x.of(2, 0), 1);
        Check.due("hours", x.of(2, 1), 6);
        Check.due("the tape stays", x.count(8), 20);
        Check.due("the fault stays", x.fault(0), 1);
        Check.due("the fraction stays", x.lower(), 1);
        Check.thrown("the tray stays", BOUNDS, () -> x.pour(1));
        x.hang(2, NONE, 0);
        x.restore(2);
        Check.due("the image stays", x.of(2, 1), 6);
        x.restore(0);
        Check.due("the later image", x.of(2, 0), 0);
        Check.thrown("none was made", STATE, () -> restored(x, 1));
        Check.thrown("restore(3)", ELEMENT, () -> restored(x, 3));
        Check.thrown("restore(-1)", ELEMENT, () -> restored(x, -1));
        Check.thrown("image(3)", ELEMENT, () -> imaged(x, 3));
        Check.thrown("image(-1)", ELEMENT, () -> imaged(x, -1));
        LitNextDoor empty = new LitNextDoor();
        empty.image(1);
        Check.house(empty, "rooms 3;");
        empty.restore(1);
        Check.due("no rooms again", empty.count(1), 0);
    }

    private static void count() {
        LitNextDoor x = Check.built(ROW + "want 0 least 0;hole 0 to 1 lets 1 costs 1;dear 999;dear 8;");
        x.hang(0, 0, 0);
        x.hang(3, 0, 1);
        x.hang(2, NONE, 1);
        x.feed(1, 2, 3, 4, 5);
        int[] due = {11, 4, 4, 2, 1, 1, 8, 2, 20};
        for (int what = 0; what < due.length; what++) {
            Check.due("count(" + what + ")", x.count(what), due[what]);
        }
        Check.due("count(9)", x.count(9), NONE);
        Check.due("count(-1)", x.count(-1), NONE);
    }
}
