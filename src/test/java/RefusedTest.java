import java.util.ArrayList;
import java.util.List;
import java.util.NoSuchElementException;

/** Each call with each sort of wrong arguments, alone and together: what is thrown, and that nothing has changed. */
public final class RefusedTest {
    private static final Class<IllegalArgumentException> ARGUMENT = IllegalArgumentException.class;
    private static final Class<IllegalStateException> STATE = IllegalStateException.class;
    private static final Class<IndexOutOfBoundsException> BOUNDS = IndexOutOfBoundsException.class;
    private static final Class<NoSuchElementException> ELEMENT = NoSuchElementException.class;
    private static final int NONE = LitNextDoor.NONE;
    private static final int MIN = Integer.MIN_VALUE;
    private static final int MAX = Integer.MAX_VALUE;

    /** A call that is due to be refused. */
    private interface Wrong {
        Object ask(LitNextDoor x);
    }

    private record Refused(String call, Class<? extends RuntimeException> due, Wrong wrong) {
    }

    private static final List<Refused> ALL = new ArrayList<>();

    private RefusedTest() {
    }

    public static void main(String[] args) {
        Check.sentence("Of several throws of a call that one comes that is told first. A call that throws changes nothing.");
        fewRooms();
        run(few());
        manyRooms();
        run(many());
        noRooms();
        run(new LitNextDoor());
        questions();
        Check.end("RefusedTest");
    }

    private static void add(String call, Class<? extends RuntimeException> due, Wrong wrong) {
        ALL.add(new Refused(call, due, wrong));
    }

    /** All refusals on one object, then each of them on an object of its own. */
    private static void run(LitNextDoor x) {
        int rooms = x.count(1);
        String due = Probe.whole(state(rooms));
        for (Refused r : ALL) {
            Check.thrown(r.call() + " with " + rooms + " rooms", r.due(), () -> r.wrong().ask(x));
        }
        Check.due("all refused calls with " + rooms + " rooms change nothing: it", Probe.whole(x), due);
        for (Refused r : ALL) {
            LitNextDoor alone = state(rooms);
            Probe.answer(() -> r.wrong().ask(alone));
            Check.due(r.call() + " with " + rooms + " rooms changes nothing: it", Probe.whole(alone), due);
        }
        ALL.clear();
    }

    private static LitNextDoor state(int rooms) {
        return rooms == 0 ? new LitNextDoor() : rooms == 3 ? few() : many();
    }

    /** Three rooms; all sorts of trays but one, two images, a fraction, a fault, bytes on the tape. */
    private static LitNextDoor few() {
        LitNextDoor x = new LitNextDoor();
        Check.house(x, "rooms 2;pane 0 to 1 lets 9 both;lamp bright 5 oil 6;dear 77;");
        x.hang(1, 0, 1 << 23);
        x.image(2);
        Check.house(x, "rooms 3;pane 0 to 1 lets 50 both;pane 1 to 2 lets 50;lamp bright 100 oil 3;lamp bright 50 oil 1;"
            + "want 1 least 50 most 60 from 8 to 16;want 0 least 1;hole 2 to 0 lets 7 costs 8;burns 4 for 1;hates 0 1;dear 30;");
        x.hang(0, 0, 0xFFFF);
        x.image(0);
        x.hang(2, 1, 3);
        x.owed(1);
        Check.house(x, "dear 1000;");
        Probe.put(x, 0, 2, 1, 0xFFFFFF, -1, 5, 0, 7);
        Probe.put(x, 1, 1, 5, 6, 7);
        Probe.put(x, 2, 3, 0, 1, 2, 3, 1L << 40);
        Check.feed(x, Probe.bytes("rooms 5;dear 9;hates 3 4;          "));
        return x;
    }

    /** Sixteen rooms: more than are taken where the document has a bound. */
    private static LitNextDoor many() {
        LitNextDoor x = new LitNextDoor();
        Check.house(x, Probe.ring(16) + "lamp bright 1 oil 1;hole 0 to 2 lets 1 costs 1;want 3 least 1;");
        x.hang(15, 0, 0xFFFFFF);
        x.tray(0, 0, 15);
        x.tray(1, 0, 16);
        x.tray(2, 3, 40);
        Probe.put(x, 3, 1, 0, 5, -1, 0);
        x.image(1);
        Check.feed(x, Probe.bytes("dear 12;"));
        return x;
    }

    private static void fewRooms() {
        theHouse();
        rooms(3);
        hours();
        whats();
        sets(3);
        rows();
        carried();
        traysAndImages();
        soonerAndPour();
    }

    private static void theHouse() {
        for (int n : new int[] {-1, MIN, 41, MAX}) {
            add("house(" + n + ")", ARGUMENT, x -> x.house(n));
        }
        for (int i : new int[] {-1, 2, MIN, MAX}) {
            for (int what : new int[] {0, 4, -1}) {
                add("pane(" + i + ", " + what + ")", ELEMENT, x -> x.pane(i, what));
                add("kind(" + i + ", " + what + ")", ELEMENT, x -> x.kind(i, what));
                add("hole(" + i + ", " + what + ")", ELEMENT, x -> x.hole(i, what));
            }
            add("day(" + i + ")", ELEMENT, x -> x.day(i));
            add("bright(" + i + ", 0)", ELEMENT, x -> x.bright(i, 0));
            add("bright(" + i + ", 24)", ELEMENT, x -> x.bright(i, 24));
        }
    }

    private static void rooms(int many) {
        for (int room : new int[] {-1, many, MIN, MAX}) {
            add("next(" + room + ")", ELEMENT, x -> x.next(room));
            add("hated(" + room + ")", ELEMENT, x -> x.hated(room));
            add("hang(" + room + ", 0, 0)", ELEMENT, x -> x.hang(room, 0, 0));
            add("hang(" + room + ", 9, -1)", ELEMENT, x -> x.hang(room, 9, -1));
            add("hang(" + room + ", 0, -1)", ELEMENT, x -> x.hang(room, 0, -1));
            add("of(" + room + ", 0)", ELEMENT, x -> x.of(room, 0));
            add("of(" + room + ", 3)", ELEMENT, x -> x.of(room, 3));
            for (int hour : new int[] {0, 24}) {
                add("light(" + room + ", " + hour + ")", ELEMENT, x -> x.light(room, hour));
                add("by(" + room + ", " + hour + ")", ELEMENT, x -> x.by(room, hour));
                add("out(" + room + ", " + hour + ")", ELEMENT, x -> x.out(room, hour));
            }
            add("barred(" + room + ")", ELEMENT, x -> x.barred(room));
            add("walk(" + room + ", 0)", ELEMENT, x -> x.walk(room, 0));
            add("walk(0, " + room + ")", ELEMENT, x -> x.walk(0, room));
            add("owed(" + room + ")", ELEMENT, x -> x.owed(room));
            add("round(" + room + ", 0)", ELEMENT, x -> x.round(room, 0));
            add("round(" + room + ", -2)", ELEMENT, x -> x.round(room, -2));
        }
    }

    private static void hours() {
        for (int hour : new int[] {-1, 24, MIN, MAX}) {
            add("light(0, " + hour + ")", ARGUMENT, x -> x.light(0, hour));
            add("by(0, " + hour + ")", ARGUMENT, x -> x.by(0, hour));
            add("dark(" + hour + ")", ARGUMENT, x -> x.dark(hour));
            add("out(0, " + hour + ")", ARGUMENT, x -> x.out(0, hour));
            add("spare(" + hour + ")", ARGUMENT, x -> x.spare(hour));
            add("angry(" + hour + ")", ARGUMENT, x -> x.angry(hour));
            add("bright(0, " + hour + ")", ARGUMENT, x -> x.bright(0, hour));
            add("mixed(" + hour + ", 0)", ARGUMENT, x -> x.mixed(hour, 0));
            add("mixed(" + hour + ", -3)", ARGUMENT, x -> x.mixed(hour, -3));
        }
        for (int kind : new int[] {-2, 2, MIN, MAX}) {
            add("hang(0, " + kind + ", 0)", ELEMENT, x -> x.hang(0, kind, 0));
            add("hang(0, " + kind + ", -1)", ELEMENT, x -> x.hang(0, kind, -1));
        }
        for (int bits : new int[] {-1, 1 << 24, MIN, MAX}) {
            add("hang(0, 1, " + bits + ")", ARGUMENT, x -> x.hang(0, 1, bits));
            add("hang(0, -1, " + bits + ")", ARGUMENT, x -> x.hang(0, NONE, bits));
        }
    }

    private static void whats() {
        for (int what : new int[] {-1, MIN, MAX}) {
            add("pane(0, " + what + ")", ARGUMENT, x -> x.pane(0, what));
            add("kind(0, " + what + ")", ARGUMENT, x -> x.kind(0, what));
            add("of(0, " + what + ")", ARGUMENT, x -> x.of(0, what));
            add("best(" + what + ")", ARGUMENT, x -> x.best(what));
            add("hole(0, " + what + ")", ARGUMENT, x -> x.hole(0, what));
            add("look(5, false, " + what + ")", ARGUMENT, x -> x.look(5, false, what));
            add("night(1, 50, " + what + ")", ARGUMENT, x -> x.night(1, 50, what));
        }
        add("pane(0, 4)", ARGUMENT, x -> x.pane(0, 4));
        add("kind(0, 2)", ARGUMENT, x -> x.kind(0, 2));
        add("of(0, 3)", ARGUMENT, x -> x.of(0, 3));
        add("best(4)", ARGUMENT, x -> x.best(4));
        add("hole(0, 5)", ARGUMENT, x -> x.hole(0, 5));
        add("look(5, true, 3)", ARGUMENT, x -> x.look(5, true, 3));
        add("night(1, 50, 3)", ARGUMENT, x -> x.night(1, 50, 3));
        add("mixed(0, 3)", ARGUMENT, x -> x.mixed(0, 3));
        add("mixed(0, -3)", ARGUMENT, x -> x.mixed(0, -3));
        add("round(0, -2)", ARGUMENT, x -> x.round(0, -2));
        add("round(0, MIN)", ARGUMENT, x -> x.round(0, MIN));
        add("night(1, -1, 0)", ARGUMENT, x -> x.night(1, -1, 0));
        add("night(1, 101, 9)", ARGUMENT, x -> x.night(1, 101, 9));
    }

    private static void sets(int rooms) {
        for (int set : new int[] {1 << rooms, -1, MIN, MAX}) {
            add("lights(" + set + ", 0)", ARGUMENT, x -> x.lights(set, 0));
            add("lights(0, " + set + ")", ARGUMENT, x -> x.lights(0, set));
            add("lights(" + set + ", " + set + ")", ARGUMENT, x -> x.lights(set, set));
            add("cost(" + set + ")", ARGUMENT, x -> x.cost(set));
        }
    }

    private static void rows() {
        int[][] grids = {{0, 1}, {1, 0}, {17, 1}, {1, 17}, {4, 5}, {65536, 65536}, {-4, -4}, {MIN, MAX}};
        for (int[] g : grids) {
            add("grid(" + g[0] + ", " + g[1] + ")", ARGUMENT, x -> x.grid(g[0], g[1]));
        }
        int[][] rules = {{0, 1, 1}, {41, 1, 1}, {5, 0, 0}, {5, 9, 0}, {5, 2, 4}, {5, 2, -1}, {MIN, MIN, MIN}};
        for (int[] r : rules) {
            add("rule(" + r[0] + ", false, " + r[1] + ", " + r[2] + ")", ARGUMENT, x -> x.rule(r[0], false, r[1], r[2]));
            add("rule(" + r[0] + ", true, " + r[1] + ", " + r[2] + ")", ARGUMENT, x -> x.rule(r[0], true, r[1], r[2]));
        }
        add("rule(2, true, 1, 1)", ARGUMENT, x -> x.rule(2, true, 1, 1));
        for (int n : new int[] {0, 41, MIN, MAX}) {
            add("look(" + n + ", false, 0)", ARGUMENT, x -> x.look(n, false, 0));
        }
        add("look(2, true, 0)", ARGUMENT, x -> x.look(2, true, 0));
    }

    private static void carried() {
        int[][] wrong = {{0, 0, 0, -1}, {3, 0, 0, -1}, {1, -1, 0, -1}, {1, 0, 24, -1}, {2, 5, 4, -1}, {1, 0, 0, 1}, {2, 0, 0, 2}, {1, 0, 0, -2},
            {MIN, MIN, MIN, MIN}, {2, 0, 23, 48}};
        for (int[] w : wrong) {
            add("carry(" + w[0] + ", " + w[1] + ", " + w[2] + ", " + w[3] + ")", ARGUMENT, x -> x.carry(w[0], w[1], w[2], w[3]));
        }
    }

    private static void traysAndImages() {
        for (int tray : new int[] {-1, 4, MIN, MAX}) {
            add("tray(" + tray + ", 0, 0)", ELEMENT, x -> Probe.laid(x, tray, 0, 0));
            add("tray(" + tray + ", 4, 41)", ELEMENT, x -> Probe.laid(x, tray, 4, 41));
            add("write(" + tray + ", 0, 0)", ELEMENT, x -> x.write(tray, 0, 0));
            add("write(" + tray + ", -1, 0)", ELEMENT, x -> x.write(tray, -1, 0));
            add("pour(" + tray + ")", ELEMENT, x -> x.pour(tray));
            add("sooner(" + tray + ")", ELEMENT, x -> x.sooner(tray));
        }
        for (int tray = 0; tray < 4; tray++) {
            int t = tray;
            add("tray(" + t + ", 4, 0)", ARGUMENT, x -> Probe.laid(x, t, 4, 0));
            add("tray(" + t + ", -1, 41)", ARGUMENT, x -> Probe.laid(x, t, -1, 41));
            add("tray(" + t + ", 0, 41)", ARGUMENT, x -> Probe.laid(x, t, 0, 41));
            add("tray(" + t + ", 0, -1)", ARGUMENT, x -> Probe.laid(x, t, 0, -1));
        }
        add("write(3, 0, 1)", STATE, x -> x.write(3, 0, 1));
        add("write(3, -1, 1)", STATE, x -> x.write(3, -1, 1));
        add("write(0, 6, 1)", BOUNDS, x -> x.write(0, 6, 1));
        add("write(0, -1, 1)", BOUNDS, x -> x.write(0, -1, 1));
        add("write(1, 3, 1)", BOUNDS, x -> x.write(1, 3, 1));
        add("write(2, 5, 1)", BOUNDS, x -> x.write(2, 5, 1));
        for (int i : new int[] {-1, 3, MIN, MAX}) {
            add("image(" + i + ")", ELEMENT, x -> Probe.imaged(x, i));
            add("restore(" + i + ")", ELEMENT, x -> Probe.restored(x, i));
        }
        add("restore(1)", STATE, x -> Probe.restored(x, 1));
    }

    private static void soonerAndPour() {
        add("sooner(3)", STATE, x -> x.sooner(3));
        add("pour(3)", STATE, x -> x.pour(3));
        add("sooner(0)", ARGUMENT, x -> x.sooner(0));
        add("pour(1)", BOUNDS, x -> x.pour(1));
        add("pour(2)", BOUNDS, x -> x.pour(2));
    }

    private static void manyRooms() {
        rooms(16);
        sets(16);
        for (int what : new int[] {-3, -2, NONE, 0, 15, 16}) {
            add("mixed(0, " + what + ")", ARGUMENT, x -> x.mixed(0, what));
        }
        for (int what : new int[] {-2, NONE, 0, 16}) {
            add("round(0, " + what + ")", ARGUMENT, x -> x.round(0, what));
        }
        // Fifteen numbers for sixteen rooms come first, then that there are more than ten.
        add("sooner(0)", BOUNDS, x -> x.sooner(0));
        add("sooner(1)", ARGUMENT, x -> x.sooner(1));
        add("sooner(2)", ARGUMENT, x -> x.sooner(2));
        add("pour(0)", BOUNDS, x -> x.pour(0));
        add("pour(2)", ARGUMENT, x -> x.pour(2));
        add("restore(0)", STATE, x -> Probe.restored(x, 0));
        add("restore(2)", STATE, x -> Probe.restored(x, 2));
        add("write(2, 40, 0)", BOUNDS, x -> x.write(2, 40, 0));
    }

    private static void noRooms() {
        rooms(0);
        sets(0);
        add("house(1)", ARGUMENT, x -> x.house(1));
        add("pane(0, 0)", ELEMENT, x -> x.pane(0, 0));
        add("kind(0, 0)", ELEMENT, x -> x.kind(0, 0));
        add("hole(0, 4)", ELEMENT, x -> x.hole(0, 4));
        add("day(0)", ELEMENT, x -> x.day(0));
        add("bright(0, 0)", ELEMENT, x -> x.bright(0, 0));
        add("mixed(0, 0)", ARGUMENT, x -> x.mixed(0, 0));
        for (int tray = 0; tray < 4; tray++) {
            int t = tray;
            add("write(" + t + ", 0, 0)", STATE, x -> x.write(t, 0, 0));
            add("pour(" + t + ")", STATE, x -> x.pour(t));
            add("sooner(" + t + ")", STATE, x -> x.sooner(t));
        }
        for (int i = 0; i < 3; i++) {
            int image = i;
            add("restore(" + image + ")", STATE, x -> Probe.restored(x, image));
        }
    }

    /** Calls that only ask leave all as it was, too. */
    private static void questions() {
        LitNextDoor x = few();
        for (int room = 0; room < 3; room++) {
            x.barred(room);
            x.round(room, NONE);
            x.out(room, 9);
            x.walk(room, 0);
        }
        for (int what = 0; what < 4; what++) {
            x.best(what);
        }
        x.gap();
        x.bright(0, 9);
        x.day(1);
        x.mixed(9, NONE);
        x.grid(4, 4);
        x.hole(0, 4);
        x.which();
        x.carry(2, 0, 23, NONE);
        x.cost(7);
        x.sooner(1);
        x.rule(40, true, 8, 255);
        x.look(40, true, 0);
        x.night(1, 50, 0);
        x.spare(9);
        x.angry(9);
        x.never();
        x.always();
        x.ever();
        x.lights(7, 7);
        Check.due("questions change nothing: it", Probe.whole(x), Probe.whole(few()));
    }
}
