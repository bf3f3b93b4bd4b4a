import java.util.ArrayList;
import java.util.List;

/** A text's first fault by the document's words: all forms of a line are kept as long as its tokens fit them. */
final class TextModel {
    // R a room, O another room than the first number, numbers as low-high; @k: not below the line's k-th number
    private static final String[] FORMS = {
        "rooms 1-16 ;",
        "pane R to O lets 1-100 ;", "pane R to O lets 1-100 both ;",
        "lamp bright 1-999 oil 0-99 ;",
        "want R least 0-9999 ;", "want R least 0-9999 most @1-9999 ;",
        "want R least 0-9999 from 0-23 to @2-23 ;", "want R least 0-9999 most @1-9999 from 0-23 to @3-23 ;",
        "hole R to O lets 1-100 costs 0-99 ;", "hole R to O lets 1-100 costs 0-99 both ;",
        "burns 0-99 for R ;", "hates R O ;", "dear 0-999 ;",
    };

    int fault = 0;
    int place = -1;
    int lines = 0;
    int rooms = 0;
    private final int[] counts = new int[FORMS.length];
    private final byte[] text;
    private int at = 0;
    private String token;
    private int tokenPlace;

    TextModel(byte[] text) {
        this.text = text;
        while (fault == 0 && readLine()) {
            lines++;
        }
    }

    private boolean is(int i, String signs) {
        return i < text.length && signs.indexOf((char) (text[i] & 255)) >= 0;
    }

    /** The next token; empty at the end, null if none begins so. */
    private void take() {
        while (is(at, " \n")) {
            at++;
        }
        tokenPlace = at;
        String sort = is(at, "0123456789") ? "0123456789" : "abcdefghijklmnopqrstuvwxyz";
        while (is(at, sort)) {
            at++;
        }
        if (at == tokenPlace && is(at, ";")) {
            at++;
        }
        token = new String(text, tokenPlace, at - tokenPlace, java.nio.charset.StandardCharsets.ISO_8859_1);
        if (token.isEmpty() && at < text.length || token.matches("[0-9]{6,}")) {
            token = null;
        }
    }

    private boolean wrong(int kind) {
        fault = kind;
        place = tokenPlace;
        return false;
    }

    private boolean readLine() {
        take();
        if (token != null && token.isEmpty()) {
            return false;
        }
        List<String[]> open = new ArrayList<>();
        for (String form : FORMS) {
            open.add(form.split(" "));
        }
        List<Integer> numbers = new ArrayList<>();
        for (int i = 0; ; i++) {
            if (token == null) {
                return wrong(1);
            }
            List<String[]> fitting = new ArrayList<>();
            for (String[] form : open) {
                if (i < form.length && fits(form[i])) {
                    fitting.add(form);
                }
            }
            open = fitting;
            if (open.isEmpty() || i == 0 && rooms == 0 && tellsRooms(open.get(0))) {
                return wrong(2);
            }
            if (token.matches("[0-9]+")) {
                int number = Integer.parseInt(token);
                if (!within(open.get(0)[i], number, numbers)) {
                    return wrong(3);
                }
                numbers.add(number);
            }
            if (i == 0 && tooMany(token)) {
                return wrong(4);
            }
            if (token.equals(";")) {
                if (open.get(0)[0].equals("rooms")) {
                    rooms = numbers.get(0);
                }
                return true;
            }
            take();
        }
    }

    private boolean fits(String part) {
        boolean isNumber = token.matches("[0-9]+");
        return part.matches("[a-z]+|;") ? token.equals(part) : isNumber;
    }

    private static boolean tellsRooms(String[] form) {
        return List.of(form).contains("R");
    }

    private boolean within(String part, int number, List<Integer> numbers) {
        if (part.equals("R")) {
            return number < rooms;
        }
        if (part.equals("O")) {
            return number < rooms && number != numbers.get(0);
        }
        String[] bounds = part.split("-");
        int low = bounds[0].startsWith("@")
            ? numbers.get(Integer.parseInt(bounds[0].substring(1))) : Integer.parseInt(bounds[0]);
        return number >= low && number <= Integer.parseInt(bounds[1]);
    }

    private boolean tooMany(String first) {
        List<String> sorts = List.of("rooms", "pane", "lamp", "want", "hole");
        int[] most = {1, 60, 4, 24, 8};
        int sort = sorts.indexOf(first);
        if (sort < 0) {
            return false;
        }
        counts[sort]++;
        return counts[sort] > most[sort];
    }
}
