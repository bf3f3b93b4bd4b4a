import java.util.NoSuchElementException;

/** The edges of trays and images; promises 43 to 47. */
public final class TrayEdgeTest {
    private static final Class<IllegalArgumentException> ARGUMENT = IllegalArgumentException.class;
    private static final Class<IllegalStateException> STATE = IllegalStateException.class;
    private static final Class<IndexOutOfBoundsException> BOUNDS = IndexOutOfBoundsException.class;
    private static final Class<NoSuchElementException> ELEMENT = NoSuchElementException.class;
    private static final int NONE = LitNextDoor.NONE;
    private static final int ALL_HOURS = 0xFFFFFF;
    private static final String HOUSE = "rooms 3;pane 0 to 1 lets 50 both;pane 1 to 2 lets 50 both;lamp bright 9 oil 1;lamp bright 8 oil 2;";

    private TrayEdgeTest() {
    }

    public static void main(String[] args) {
        trays();
        traySizes();
        trayAnew();
        trayRefused();
        write();
        writeWraps();
        writeRefused();
        pour();
        pourSizes();
        pourBeyondTheHouse();
        pourRefused();
        pourChangesNothing();
        image();
        imageOfAll();
        imagesApart();
        restore();
        restoreLeaves();
        restoreRefused();
        Check.end("TrayEdgeTest");
    }

    // ---- trays

    private static void trays() {
        Check.sentence("TRAYS 0 to 3 are MISSING at first, or rows of 0 to 40 numbers of 8 bits (sort 0), 16 (1), 32 (2), 64 (3).");
        LitNextDoor x = Check.built(HOUSE);
        for (int tray = 0; tray < 4; tray++) {
            int t = tray;
            Check.thrown("missing", STATE, () -> x.write(t, 0, 0));
            Check.thrown("missing", STATE, () -> x.pour(t));
            Check.thrown("missing", STATE, () -> x.sooner(t));
            x.tray(t, t, 1);
            for (int other = tray + 1; other < 4; other++) {
                int o = other;
                Check.thrown("the others are missing still", STATE, () -> x.pour(o));
            }
        }
        long[] due = {-17, -12817, 0x89ABCDEF, 0x123456789ABCDEFL};
        for (int tray = 0; tray < 4; tray++) {
            Check.due("bits of sort " + tray, x.write(tray, 0, 0x123456789ABCDEFL), due[tray]);
        }
    }

    private static void traySizes() {
        Check.sentence("A TRAY is a row of so many 0s.");
        LitNextDoor x = new LitNextDoor();
        for (int many : new int[] {0, 1, 2, 39, 40}) {
            for (int tray = 0; tray < 4; tray++) {
                int t = tray;
                x.tray(t, 3 - t, many);
                for (int place = 0; place < many; place++) {
                    Check.due("place " + place + " of " + many, x.write(t, place, 1 + place), 1 + place);
                }
                Check.thrown("no place " + many, BOUNDS, () -> x.write(t, many, 0));
            }
        }
    }

    private static void trayAnew() {
        LitNextDoor x = Check.built(HOUSE);
        Probe.put(x, 1, 2, 1, 9, 1, 9, 1, 9);
        x.pour(1);
        x.tray(1, 2, 6);
        Check.due("0s are kind 0 without hours", x.pour(1), 3);
        for (int room = 0; room < 3; room++) {
            Check.due("kind 0", x.of(room, 0), 0);
            Check.due("hours 0", x.of(room, 1), 0);
        }
        // Fewer, then more again: what stood there doesn't come back.
        Probe.put(x, 1, 2, 1, 9, 1, 9, 1, 9);
        x.tray(1, 2, 0);
        x.tray(1, 2, 6);
        x.pour(1);
        Check.due("still 0s", x.of(2, 1), 0);
        // Another sort is another row.
        Probe.put(x, 1, 3, 1L << 40);
        x.tray(1, 0, 1);
        Check.due("8 bits now", x.write(1, 0, 256), 0);
    }

    private static void trayRefused() {
        Check.sentence("NoSuchElementException: no such TRAY; IllegalArgumentException: no such sort, or not so many.");
        LitNextDoor x = Check.built(HOUSE);
        Probe.put(x, 0, 2, 1, 5);
        for (int tray : LampEdgeTest.beyond(4)) {
            Check.thrown("tray " + tray, ELEMENT, () -> Probe.laid(x, tray, 0, 0));
            Check.thrown("no such tray is told first", ELEMENT, () -> Probe.laid(x, tray, 4, 41));
        }
        for (int sort : LampEdgeTest.beyond(4)) {
            Check.thrown("sort " + sort, ARGUMENT, () -> Probe.laid(x, 0, sort, 0));
            Check.thrown("sort " + sort, ARGUMENT, () -> Probe.laid(x, 1, sort, 41));
        }
        for (int many : LampEdgeTest.beyond(41)) {
            Check.thrown("many " + many, ARGUMENT, () -> Probe.laid(x, 0, 0, many));
            Check.thrown("many " + many, ARGUMENT, () -> Probe.laid(x, 1, 3, many));
        }
        Check.due("it is as it was", x.pour(0), 1);
        Check.due("it is as it was", x.of(0, 1), 5);
        Check.thrown("it is missing still", STATE, () -> x.pour(1));
    }

    private static void write() {
        Check.sentence("A number comes to a place of a TRAY, cut to its sort: as it is there.");
        LitNextDoor x = Check.built(HOUSE);
        x.tray(2, 1, 40);
        Check.due("the first", x.write(2, 0, 5), 5);
        Check.due("the last", x.write(2, 39, -5), -5);
        Check.due("again", x.write(2, 0, 6), 6);
        // It is cut where it is kept, too: 256 of 8 bits is kind 0.
        Probe.put(x, 0, 0, 256 + 1, 256 + 3);
        x.pour(0);
        Check.due("the kind", x.of(0, 0), 1);
        Check.due("the hours", x.of(0, 1), 3);
        Probe.put(x, 0, 1, 65536 + 1, 65536 + 3);
        x.pour(0);
        Check.due("the kind", x.of(0, 0), 1);
        Check.due("the hours", x.of(0, 1), 3);
        Probe.put(x, 0, 2, 1L << 32, (1L << 32) + ALL_HOURS);
        x.pour(0);
        Check.due("the kind", x.of(0, 0), 0);
        Check.due("the hours", x.of(0, 1), ALL_HOURS);
    }

    private static void writeWraps() {
        LitNextDoor x = new LitNextDoor();
        int[] bits = {8, 16, 32, 64};
        long[] numbers = {0, 1, -1, 127, 128, 129, 255, 256, -128, -129, 32767, 32768, 65535, 65536, -32768, -32769, Integer.MAX_VALUE,
            1L << 31, (1L << 32) - 1, 1L << 32, Integer.MIN_VALUE, Integer.MIN_VALUE - 1L, Long.MAX_VALUE, Long.MIN_VALUE};
        for (int sort = 0; sort < 4; sort++) {
            x.tray(sort, sort, 1);
            int shift = 64 - bits[sort];
            for (long v : numbers) {
                Check.due(v + " of " + bits[sort] + " bits", x.write(sort, 0, v), v << shift >> shift);
            }
        }
    }

    private static void writeRefused() {
        Check.sentence("IllegalStateException: it is MISSING; IndexOutOfBoundsException: it has no such place.");
        LitNextDoor x = new LitNextDoor();
        for (int tray : LampEdgeTest.beyond(4)) {
            Check.thrown("no such tray is told first", ELEMENT, () -> x.write(tray, -1, 0));
            Check.thrown("tray " + tray, ELEMENT, () -> x.write(tray, 0, 0));
        }
        for (int tray = 0; tray < 4; tray++) {
            int t = tray;
            Check.thrown("missing is told first", STATE, () -> x.write(t, -1, 0));
            Check.thrown("missing", STATE, () -> x.write(t, 0, 0));
            for (int many : new int[] {0, 1, 40}) {
                x.tray(t, t, many);
                for (int place : LampEdgeTest.beyond(many)) {
                    Check.thrown("place " + place + " of " + many, BOUNDS, () -> x.write(t, place, 0));
                }
            }
        }
    }

    private static void lamp(LitNextDoor x, int room, int kind, int hours) {
        Check.due("kind in " + room, x.of(room, 0), kind);
        Check.due("hours in " + room, x.of(room, 1), hours);
    }

    private static void pour() {
        Check.sentence("The numbers of a TRAY, two by two (KIND, or NONE; HOURS), are hung in ROOMS 0, 1, ..: how many.");
        LitNextDoor x = Check.built(HOUSE);
        x.hang(1, 1, 5);
        x.hang(2, 1, 6);
        Probe.put(x, 0, 2, 0, ALL_HOURS, NONE, ALL_HOURS);
        Check.due("two", x.pour(0), 2);
        lamp(x, 0, 0, ALL_HOURS);
        lamp(x, 1, NONE, 0);
        lamp(x, 2, 1, 6);
        Check.due("the tray stays", x.pour(0), 2);
        Probe.put(x, 3, 3, 1, 0, 0, 1 << 23, NONE, 0);
        Check.due("all three", x.pour(3), 3);
        lamp(x, 0, 1, 0);
        lamp(x, 1, 0, 1 << 23);
        lamp(x, 2, NONE, 0);
        Probe.put(x, 1, 0, NONE, 127);
        Check.due("8 bits", x.pour(1), 1);
        lamp(x, 0, NONE, 0);
    }

    private static void pourSizes() {
        LitNextDoor x = Check.built("rooms 16;lamp bright 1 oil 0;");
        for (int many = 0; many <= 40; many++) {
            x.tray(0, 0, many);
            if (many % 2 == 1) {
                Check.thrown("it ends within two: " + many, BOUNDS, () -> x.pour(0));
            } else if (many > 32) {
                Check.thrown("more than 16 rooms: " + many, ARGUMENT, () -> x.pour(0));
            } else {
                Check.due("pour " + many, x.pour(0), many / 2);
                Check.due("rooms with a lamp", x.count(7), many / 2);
            }
        }
    }

    private static void pourBeyondTheHouse() {
        LitNextDoor no = new LitNextDoor();
        no.tray(0, 3, 0);
        Check.due("no rooms, no numbers", no.pour(0), 0);
        Probe.put(no, 0, 3, NONE, 0);
        Check.thrown("no rooms", ARGUMENT, () -> no.pour(0));
        LitNextDoor dark = Check.built("rooms 1;");
        Probe.put(dark, 0, 3, NONE, 0);
        Check.due("no kinds: none", dark.pour(0), 1);
        Probe.put(dark, 0, 3, 0, 0);
        Check.thrown("no kinds: kind 0", ARGUMENT, () -> dark.pour(0));
        LitNextDoor four = Check.built("rooms 1;" + "lamp bright 1 oil 0;".repeat(4));
        Probe.put(four, 0, 0, 3, 1);
        Check.due("the fourth kind", four.pour(0), 1);
        Probe.put(four, 0, 0, 4, 1);
        Check.thrown("a fifth kind", ARGUMENT, () -> four.pour(0));
    }

    private static void pourRefused() {
        Check.sentence("IllegalStateException: it is MISSING; IndexOutOfBoundsException: it ends within two; "
            + "IllegalArgumentException: there are more than ROOMS, a KIND that there isn't, HOURS.");
        LitNextDoor x = Check.built(HOUSE);
        for (int tray : LampEdgeTest.beyond(4)) {
            Check.thrown("tray " + tray, ELEMENT, () -> x.pour(tray));
        }
        Check.thrown("missing", STATE, () -> x.pour(3));
        Probe.put(x, 3, 3, 0);
        Check.thrown("one number", BOUNDS, () -> x.pour(3));
        Probe.put(x, 3, 3, 9, 9, 9, -1, 9, 9, 9, 9, 9);
        Check.thrown("it ends within two is told first", BOUNDS, () -> x.pour(3));
        Probe.put(x, 3, 3, 0, 0, 0, 0, 0, 0, 0, 0);
        Check.thrown("four of three", ARGUMENT, () -> x.pour(3));
        for (long kind : new long[] {-2, 2, 3, 256, 1L << 32, -1L << 32, (1L << 32) - 1, Long.MIN_VALUE, Long.MAX_VALUE}) {
            Probe.put(x, 3, 3, kind, 0);
            Check.thrown("kind " + kind, ARGUMENT, () -> x.pour(3));
            Probe.put(x, 3, 3, 0, 0, 0, 0, kind, 0);
            Check.thrown("the last kind " + kind, ARGUMENT, () -> x.pour(3));
        }
        for (long hours : new long[] {-1, 1 << 24, 1L << 32, 1L << 32 | 1, Long.MIN_VALUE, Long.MAX_VALUE}) {
            Probe.put(x, 3, 3, 0, hours);
            Check.thrown("hours " + hours, ARGUMENT, () -> x.pour(3));
            Probe.put(x, 3, 3, NONE, hours);
            Check.thrown("hours " + hours + " of none", ARGUMENT, () -> x.pour(3));
            Probe.put(x, 3, 3, 0, 0, 0, 0, 0, hours);
            Check.thrown("the last hours " + hours, ARGUMENT, () -> x.pour(3));
        }
    }

    private static void pourChangesNothing() {
        LitNextDoor x = Check.built(HOUSE);
        x.hang(0, 1, 5);
        x.hang(2, 0, 6);
        String before = Probe.still(x);
        long[][] wrong = {{0, 1, 0, 1, 2, 1}, {0, 1, 0, 1, 0, -1}, {0, 1, 0, 1, 0}, {0, 1, 0, 1, 0, 1, 0, 1}};
        for (long[] w : wrong) {
            Probe.put(x, 0, 2, w);
            String thrown = Probe.answer(() -> x.pour(0));
            Check.due("it is refused: " + thrown, thrown.endsWith("Exception"), true);
            Check.due("all lamps hang as they did", Probe.still(x), before);
        }
    }

    // ---- images

    private static void image() {
        Check.sentence("IMAGES 0 to 2: all but the tape, the FAULT, the FRACTION and TRAYS, as it was (none at first).");
        LitNextDoor x = Check.built(HOUSE);
        for (int i = 0; i < 3; i++) {
            int image = i;
            Check.thrown("none at first", STATE, () -> Probe.restored(x, image));
        }
        Check.sentence("An IMAGE is made.");
        for (int i = 0; i < 3; i++) {
            x.image(i);
            x.restore(i);
            for (int other = i + 1; other < 3; other++) {
                int o = other;
                Check.thrown("the others aren't made", STATE, () -> Probe.restored(x, o));
            }
        }
        Check.sentence("NoSuchElementException: no such one.");
        for (int i : LampEdgeTest.beyond(3)) {
            Check.thrown("image(" + i + ")", ELEMENT, () -> Probe.imaged(x, i));
        }
    }

    private static void imageOfAll() {
        LitNextDoor x = Check.built(HOUSE + "want 0 least 1;hole 0 to 2 lets 3 costs 4;burns 5 for 1;hates 0 1;dear 6;");
        x.hang(1, 0, 7);
        x.hang(2, 1, 0);
        x.owed(0);
        String before = Probe.still(x);
        int carried = x.carry(1, 0, 3, NONE);
        x.image(2);
        Check.due("to make it changes nothing", Probe.still(x), before);
        Check.house(x, "rooms 2;lamp bright 1 oil 1;dear 1;");
        x.hang(0, 0, 1);
        Check.due("carried in another house", x.carry(1, 0, 3, NONE), 0);
        x.restore(2);
        Check.due("all is as it was", Probe.still(x), before);
        Check.due("carried as it was", x.carry(1, 0, 3, NONE), carried);
        Check.due("what is owed is as it was", x.owed(0), true);
        Check.due("all is as it was", Probe.still(x), before);
        x.restore(2);
        Check.due("and once more", Probe.still(x), before);
    }

    private static void imagesApart() {
        LitNextDoor x = new LitNextDoor();
        x.image(0);
        Check.house(x, HOUSE);
        x.hang(0, 1, 3);
        x.image(1);
        x.hang(0, 0, 4);
        x.image(2);
        x.restore(0);
        Check.due("no rooms", x.count(1), 0);
        Check.due("no lamps", x.count(7), 0);
        x.restore(2);
        lamp(x, 0, 0, 4);
        x.restore(1);
        lamp(x, 0, 1, 3);
        // What comes behind restore() is not in the image.
        x.hang(0, NONE, 0);
        x.hang(2, 1, 9);
        x.restore(1);
        lamp(x, 0, 1, 3);
        lamp(x, 2, NONE, 0);
        x.hang(2, 1, 9);
        x.image(1);
        x.restore(2);
        lamp(x, 2, NONE, 0);
        x.restore(1);
        lamp(x, 2, 1, 9);
    }

    private static void restore() {
        Check.sentence("All is as in an IMAGE.");
        LitNextDoor x = Check.built(HOUSE);
        x.image(0);
        x.hang(0, 0, ALL_HOURS);
        x.restore(0);
        Check.due("no lamp", x.count(7), 0);
        Check.house(x, Probe.ring(16));
        x.restore(0);
        Check.due("three rooms", x.count(1), 3);
        Check.thrown("a fourth", ELEMENT, () -> x.next(3));
        Check.due("its lines", x.count(0), 5);
        Check.due("its sets", x.best(0), 3);
        Check.due("its walks", x.walk(0, 2), 2);
    }

    private static void restoreLeaves() {
        LitNextDoor x = Check.built(HOUSE);
        x.image(0);
        x.feed(0x64656172, 0x2037373B, 0x20202020, 0x20202020, 0x20202020);
        x.owed(0);
        Probe.put(x, 0, 2, 1, 77);
        long upper = x.upper();
        x.restore(0);
        Check.due("the tape stays", x.count(8), 20);
        Check.due("the fraction stays", x.upper(), upper);
        Check.due("the tray stays", x.pour(0), 1);
        lamp(x, 0, 1, 77);
        Check.due("what is on the tape", x.house(20), 1);
        Check.due("what is on the tape", x.count(6), 77);
        x.restore(0);
        Check.due("the tape isn't as it was", x.count(8), 0);
        Check.house(x, "dear @");
        x.restore(0);
        Check.due("the fault stays", x.fault(0), 1);
        Check.due("its place stays", x.fault(1), 5);
        Check.thrown("a tray that is missing stays so", STATE, () -> x.pour(1));
    }

    private static void restoreRefused() {
        Check.sentence("NoSuchElementException: no such one; IllegalStateException: none was made.");
        LitNextDoor x = Check.built(HOUSE);
        x.hang(0, 1, 5);
        x.image(1);
        x.hang(0, 0, 6);
        for (int i : LampEdgeTest.beyond(3)) {
            Check.thrown("restore(" + i + ")", ELEMENT, () -> Probe.restored(x, i));
        }
        Check.thrown("none was made", STATE, () -> Probe.restored(x, 0));
        Check.thrown("none was made", STATE, () -> Probe.restored(x, 2));
        lamp(x, 0, 0, 6);
        x.restore(1);
        lamp(x, 0, 1, 5);
    }
}
