import java.nio.charset.StandardCharsets;
import java.util.Random;

/** Texts with mistakes by draws: each has the fault that the model finds, and changes nothing then. */
public final class TextTest {
    private static final String[] WORDS = {
        "rooms", "pane", "to", "lets", "both", "lamp", "bright", "oil", "want", "least", "most", "from", "hole",
        "costs", "burns", "for", "hates", "dear", ";", "0", "1", "2", "16", "17", "23", "24", "99", "100", "101",
        "999", "1000", "9999", "10000", "00003", "000003", "99999", "100000", "roomsx", "room", "\n", "Pane", "-1",
    };

    private TextTest() {
    }

    public static void main(String[] args) {
        Random draw = new Random(48);
        int[] seen = new int[5];
        for (int i = 0; i < 30000; i++) {
            byte[] text = i % 5 == 4 ? many(draw) : mistaken(draw);
            TextModel due = new TextModel(text);
            seen[due.fault]++;
            compare(text, due);
        }
        for (int kind = 0; kind < seen.length; kind++) {
            Check.due("texts with fault " + kind + " came", seen[kind] > 200, true);
        }
        Check.end("TextTest");
    }

    private static void compare(byte[] text, TextModel due) {
        LitNextDoor x = new LitNextDoor();
        Check.house(x, "dear 7;");
        Check.feed(x, text);
        String told = "text <" + new String(text, StandardCharsets.ISO_8859_1) + "> ";
        Check.due(told, x.house(text.length), due.fault == 0 ? due.lines : -10 - due.fault);
        Check.due(told + "fault(0)", x.fault(0), due.fault);
        Check.due(told + "fault(1)", x.fault(1), due.place);
        Check.due(told + "count(0)", x.count(0), due.fault == 0 ? due.lines : 1);
        Check.due(told + "count(1)", x.count(1), due.fault == 0 ? due.rooms : 0);
        Check.due(told + "count(8)", x.count(8), 0);
        if (due.fault != 0) {
            Check.due(told + "count(6)", x.count(6), 7);
        }
    }

    private static byte[] mistaken(Random draw) {
        StringBuilder text = new StringBuilder();
        int rooms = 1 + draw.nextInt(16);
        Model.drawn(draw, rooms, draw.nextInt(6), text);
        for (int i = draw.nextInt(3); i > 0; i--) {
            mistake(draw, text);
        }
        text.setLength(Math.min(text.length(), 800));
        return text.toString().getBytes(StandardCharsets.ISO_8859_1);
    }

    private static void mistake(Random draw, StringBuilder text) {
        int at = draw.nextInt(text.length());
        switch (draw.nextInt(7)) {
            case 0:
                text.deleteCharAt(at);
                if (text.length() == 0) {
                    text.append(' ');
                }
                break;
            case 1:
                text.setCharAt(at, (char) draw.nextInt(256));
                break;
            case 2:
                text.insert(at, " 0123456789;abo\n".charAt(draw.nextInt(16)));
                break;
            case 3:
                text.insert(at, " " + WORDS[draw.nextInt(WORDS.length)] + " ");
                break;
            case 4:
                swapToken(draw, text, at);
                break;
            case 5:
                text.setLength(at + 1);
                break;
            default:
                swapToken(draw, text, at);
                swapToken(draw, text, Math.min(at, text.length() - 1));
                break;
        }
    }

    /** Another word or number in the place of one. */
    private static void swapToken(Random draw, StringBuilder text, int at) {
        int from = at;
        while (from > 0 && Character.isLetterOrDigit(text.charAt(from - 1))) {
            from--;
        }
        int to = at;
        while (to < text.length() && Character.isLetterOrDigit(text.charAt(to))) {
            to++;
        }
        text.replace(from, to, WORDS[draw.nextInt(WORDS.length)]);
    }

    /** About as many lines of a sort as there may be, written as short as they can be. */
    private static byte[] many(Random draw) {
        StringBuilder text = new StringBuilder("rooms2;");
        String[] lines = {"lamp bright 1 oil 0;", "want 0least 1;", "hole0to1lets1costs0;", "rooms 3;"};
        int[] most = {4, 24, 8, 0};
        int sort = draw.nextInt(4);
        for (int i = most[sort] + draw.nextInt(3); i > 0; i--) {
            text.append(lines[sort]);
        }
        if (draw.nextInt(4) == 0) {
            mistake(draw, text);
        }
        text.setLength(Math.min(text.length(), 800));
        return text.toString().getBytes(StandardCharsets.ISO_8859_1);
    }
}
