import java.nio.charset.StandardCharsets;

/** All that can be seen of an object, as a text: two objects are alike if all their answers are. */
final class Probe {
    private static final int TRAYS = 4;
    private static final int IMAGES = 3;

    private Probe() {
    }

    /** A call's answer, or the name of what it throws. */
    static String answer(Check.Call call) {
        try {
            return String.valueOf(call.answer());
        } catch (RuntimeException e) {
            return e.getClass().getSimpleName() + Check.byProgram(e);
        }
    }

    /** What the house and its lamps are; asking for it changes nothing. */
    static String still(LitNextDoor x) {
        StringBuilder seen = new StringBuilder();
        for (int what = 0; what < 9; what++) {
            seen.append(" count ").append(x.count(what));
        }
        seen.append(" fault ").append(x.fault(0)).append(" at ").append(x.fault(1));
        seen.append(" fraction ").append(x.upper()).append('/').append(x.lower());
        for (int i = 0; i < x.count(2); i++) {
            seen.append(" pane ").append(x.pane(i, 0)).append(' ').append(x.pane(i, 1));
            seen.append(' ').append(x.pane(i, 2)).append(' ').append(x.pane(i, 3));
        }
        for (int i = 0; i < x.count(3); i++) {
            seen.append(" kind ").append(x.kind(i, 0)).append(' ').append(x.kind(i, 1));
        }
        for (int i = 0; i < x.count(5); i++) {
            seen.append(" hole ").append(x.hole(i, 0)).append(' ').append(x.hole(i, 1));
            seen.append(' ').append(x.hole(i, 2)).append(' ').append(x.hole(i, 3));
        }
        for (int room = 0; room < x.count(1); room++) {
            seen.append(" room ").append(x.next(room)).append(' ').append(x.hated(room)).append(' ').append(x.of(room, 0));
            seen.append(' ').append(x.of(room, 1)).append(' ').append(x.of(room, 2));
        }
        for (int hour = 0; hour < 24; hour += 8) {
            seen.append(" dark ").append(x.dark(hour));
        }
        return seen.append(" judge ").append(x.judge()).append(" oil ").append(x.oil()).toString();
    }

    /** All of it, with tape, trays and images. This takes the object apart: nothing can be asked of it behind this. */
    static String whole(LitNextDoor x) {
        StringBuilder seen = new StringBuilder(still(x));
        for (int i = 0; i < TRAYS; i++) {
            int tray = i;
            seen.append("\n  sooner ").append(answer(() -> x.sooner(tray)));
            seen.append(" pour ").append(answer(() -> x.pour(tray))).append(lamps(x));
            seen.append(" cut ").append(answer(() -> x.write(tray, 0, 0x123456789ABCDEFL)));
            seen.append(" size ").append(sizeOf(x, tray));
        }
        int taped = x.count(8);
        seen.append("\n  tape ").append(taped).append(": ").append(x.house(taped)).append(still(x));
        for (int i = 0; i < IMAGES; i++) {
            int image = i;
            seen.append("\n  image ").append(answer(() -> restored(x, image))).append(still(x));
        }
        return seen.toString();
    }

    private static String lamps(LitNextDoor x) {
        StringBuilder seen = new StringBuilder();
        for (int room = 0; room < x.count(1); room++) {
            seen.append(' ').append(x.of(room, 0)).append(':').append(x.of(room, 1));
        }
        return seen.toString();
    }

    private static int sizeOf(LitNextDoor x, int tray) {
        int size = 0;
        while (size < 50 && isPlace(x, tray, size)) {
            size++;
        }
        return size;
    }

    private static boolean isPlace(LitNextDoor x, int tray, int place) {
        return !answer(() -> x.write(tray, place, 0)).endsWith("Exception");
    }

    static Object restored(LitNextDoor x, int i) {
        x.restore(i);
        return null;
    }

    static Object imaged(LitNextDoor x, int i) {
        x.image(i);
        return null;
    }

    static Object laid(LitNextDoor x, int tray, int sort, int many) {
        x.tray(tray, sort, many);
        return null;
    }

    /** A tray of just these numbers. */
    static void put(LitNextDoor x, int tray, int sort, long... numbers) {
        x.tray(tray, sort, numbers.length);
        for (int i = 0; i < numbers.length; i++) {
            x.write(tray, i, numbers[i]);
        }
    }

    static byte[] bytes(String text) {
        return text.getBytes(StandardCharsets.ISO_8859_1);
    }

    /** Rooms in a ring, each with a pane to the next one, both ways. */
    static String ring(int n) {
        StringBuilder text = new StringBuilder("rooms " + n + ";");
        for (int i = 0; i < n; i++) {
            text.append("pane ").append(i).append(" to ").append((i + 1) % n).append(" lets 50 both;");
        }
        return text.toString();
    }
}
