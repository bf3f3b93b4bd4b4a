/** The edges of a text: what each line bears and the next beyond, tokens, faults and their places; promises 1 to 4. */
public final class TextEdgeTest {
    private static final Class<IllegalArgumentException> ARGUMENT = IllegalArgumentException.class;
    private static final int NONE = LitNextDoor.NONE;
    private static final String BEFORE = "rooms 2;pane 0 to 1 lets 7;lamp bright 5 oil 3;want 1 least 1;dear 7;";
    // Each form of a line, as long as it can be.
    private static final String[] FORMS = {
        "rooms 3 ;", "pane 0 to 1 lets 5 both ;", "lamp bright 5 oil 6 ;", "want 0 least 4 most 5 from 6 to 7 ;",
        "hole 1 to 0 lets 5 costs 6 both ;", "burns 9 for 1 ;", "hates 0 2 ;", "dear 8 ;",
    };
    private static final String[] TELL_ROOMS = {"pane 0 to 1 lets 5;", "want 0 least 5;", "hole 0 to 1 lets 5 costs 5;",
        "burns 1 for 0;", "hates 0 1;"};

    private TextEdgeTest() {
    }

    public static void main(String[] args) {
        newObject();
        feedOrder();
        feedFull();
        houseTaken();
        houseFaulty();
        houseRefused();
        faultAnswers();
        lengths();
        forms();
        tokensLeftOut();
        tokensTwice();
        wordsOtherwise();
        rooms();
        roomNumbers();
        panes();
        panesMost();
        panesTogether();
        lamps();
        wantLight();
        wantWithoutMost();
        wantHours();
        wantsMost();
        holes();
        burns();
        hates();
        dear();
        tokens();
        firstFault();
        leastKind();
        faultOne();
        faultTwo();
        faultThree();
        faultFour();
        Check.end("TextEdgeTest");
    }

    // ---- what texts are compared by

    private static LitNextDoor taken(String text, int lines) {
        LitNextDoor x = new LitNextDoor();
        Check.due("house of <" + text + ">", Check.house(x, text), lines);
        Check.due("fault(0) of <" + text + ">", x.fault(0), 0);
        Check.due("fault(1) of <" + text + ">", x.fault(1), NONE);
        return x;
    }

    private static int linesOf(String text) {
        return text.replaceAll("[^;]", "").length();
    }

    /** A text with the place of its fault marked by the first ^; all that was there ahead of it stays. */
    private static void refused(int kind, String marked) {
        String text = marked.replaceFirst("\\^", "");
        LitNextDoor x = new LitNextDoor();
        Check.house(x, BEFORE);
        x.hang(1, 0, 9);
        String before = x.count(0) + " " + x.count(1) + " " + x.count(2) + " " + x.count(6) + " " + x.of(1, 1);
        Check.due("house of <" + marked + ">", Check.house(x, text), -10 - kind);
        Check.due("fault(0) of <" + marked + ">", x.fault(0), kind);
        Check.due("fault(1) of <" + marked + ">", x.fault(1), marked.indexOf('^'));
        String behind = x.count(0) + " " + x.count(1) + " " + x.count(2) + " " + x.count(6) + " " + x.of(1, 1);
        Check.due("all stays behind <" + marked + ">", behind, before);
        Check.due("the tape behind <" + marked + ">", x.count(8), 0);
    }

    /** The least and the largest number are taken, those next beyond them are not. */
    private static void bounds(String before, int low, int high, String after) {
        taken(before + low + after, linesOf(before + after));
        taken(before + high + after, linesOf(before + after));
        if (low > 0) {
            refused(3, before + "^" + (low - 1) + after);
        }
        refused(3, before + "^" + (high + 1) + after);
        refused(3, before + "^99999" + after);
    }

    // ---- promises 1 to 4

    private static void newObject() {
        Check.sentence("No ROOMS; TRAYS are MISSING; an empty tape; no FRACTION.");
        LitNextDoor x = new LitNextDoor();
        Check.due("rooms", x.count(1), 0);
        Check.thrown("the first room", java.util.NoSuchElementException.class, () -> x.next(0));
        for (int i = 0; i < 4; i++) {
            int tray = i;
            Check.thrown("sooner", IllegalStateException.class, () -> x.sooner(tray));
            Check.thrown("write", IllegalStateException.class, () -> x.write(tray, 0, 0));
            Check.thrown("pour", IllegalStateException.class, () -> x.pour(tray));
        }
        Check.due("bytes", x.count(8), 0);
        Check.thrown("one byte", ARGUMENT, () -> x.house(1));
        Check.due("upper", x.upper(), 0);
        Check.due("lower", x.lower(), 0);
    }

    private static void feedOrder() {
        Check.sentence("Twenty bytes come behind those on the tape, the highest of each int first: how many it has;");
        LitNextDoor x = new LitNextDoor();
        // "dear", "0000", "1;de", "ar00", "0002"; then "9;" and signs above 127 and of 0
        Check.due("feed", x.feed(0x64656172, 0x30303030, 0x313B6465, 0x61723030, 0x30303032), 20);
        Check.due("feed", x.feed(0x393B0000, -1, Integer.MIN_VALUE, Integer.MAX_VALUE, 0), 40);
        Check.due("count", x.count(8), 40);
        Check.due("house", x.house(22), -11);
        Check.due("its place is that of six digits", x.fault(1), 14);
        x.feed(0x64656172, 0x20202020, 0x313B6465, 0x61722020, 0x20202032);
        x.feed(0x393B0000, -1, Integer.MIN_VALUE, Integer.MAX_VALUE, 0);
        Check.due("house", x.house(22), 2);
        Check.due("dear", x.count(6), 29);
        x.feed(0x20202020, 0x20202020, 0x20202020, 0x20202020, 0x20202000);
        Check.due("the last byte is the lowest of the last int", x.house(20), -11);
        Check.due("the last byte is the lowest of the last int", x.fault(1), 19);
    }

    private static void feedFull() {
        Check.sentence("NONE, and nothing changes, if there would be more than 800.");
        LitNextDoor x = new LitNextDoor();
        byte[] text = Probe.bytes(" ".repeat(792) + "dear 23;");
        Check.feed(x, text);
        Check.due("a full tape", x.count(8), 800);
        for (int i = 0; i < 3; i++) {
            Check.due("feed to a full tape", x.feed(0, 0, 0, 0, 0), NONE);
            Check.due("a full tape", x.count(8), 800);
        }
        Check.due("what is on it", x.house(800), 1);
        Check.due("what is on it", x.count(6), 23);
        Check.due("feed again", x.feed(0, 0, 0, 0, 0), 20);
        LitNextDoor y = new LitNextDoor();
        for (int i = 1; i <= 39; i++) {
            Check.due("feed", y.feed(0, 0, 0, 0, 0), 20 * i);
        }
        Check.due("the 40th feed", y.feed(0, 0, 0, 0, 0), 800);
        Check.due("the 41st feed", y.feed(0, 0, 0, 0, 0), NONE);
    }

    private static void houseTaken() {
        Check.sentence("The first n bytes of the tape (which is empty then) are THE HOUSE, in which no LAMP hangs: how many LINES;");
        LitNextDoor x = new LitNextDoor();
        String text = "rooms 2;lamp bright 1 oil 0;dear 4;dear 5;";
        Check.feed(x, Probe.bytes(text));
        Check.due("all but the last line", x.house(35), 3);
        Check.due("dear", x.count(6), 4);
        Check.due("lines", x.count(0), 3);
        Check.due("the tape", x.count(8), 0);
        Check.thrown("nothing is left of it", ARGUMENT, () -> x.house(1));
        x.hang(0, 0, 1);
        x.hang(1, 0, 0);
        Check.due("lamps", x.count(7), 2);
        Check.due("the same text again", Check.house(x, text), 4);
        Check.due("no lamps", x.count(7), 0);
        for (int room = 0; room < 2; room++) {
            Check.due("no lamp", x.of(room, 0), NONE);
            Check.due("no hours", x.of(room, 1), 0);
        }
        Check.due("no text", x.house(0), 0);
        Check.due("lines of no text", x.count(0), 0);
        Check.due("rooms of no text", x.count(1), 0);
        x.feed(1, 2, 3, 4, 5);
        Check.due("no text of a tape with bytes", x.house(0), 0);
        Check.due("the tape is empty then", x.count(8), 0);
    }

    private static void houseFaulty() {
        Check.sentence("-10 less the FAULT (all stays).");
        String[] faulty = {"rooms @", "rooms 2", "rooms 17;", "rooms 2;rooms 2;"};
        for (int kind = 1; kind <= 4; kind++) {
            LitNextDoor x = Check.built(BEFORE);
            x.hang(0, 0, 5);
            x.owed(0);
            Probe.put(x, 2, 2, 0, 77);
            x.image(1);
            String before = Probe.still(x);
            Check.due("house", Check.house(x, faulty[kind - 1]), -10 - kind);
            Check.due("fault", x.fault(0), kind);
            Check.house(x, "x");
            String same = before.replace("fault 0 at -1", "fault 2 at 0");
            Check.due("all but the fault", Probe.still(x), same);
            Check.due("the tray stays", x.pour(2), 1);
            Check.due("the tray stays", x.of(0, 1), 77);
            x.restore(1);
            Check.due("the image stays", Probe.still(x), same);
        }
    }

    private static void houseRefused() {
        Check.sentence("IllegalArgumentException: n is below 0 or above what it has.");
        LitNextDoor x = new LitNextDoor();
        for (int n : new int[] {-1, 1, Integer.MIN_VALUE, Integer.MAX_VALUE}) {
            Check.thrown("house(" + n + ") of an empty tape", ARGUMENT, () -> x.house(n));
        }
        Check.feed(x, Probe.bytes("dear 6;             "));
        for (int n : new int[] {-1, 21, Integer.MIN_VALUE, Integer.MAX_VALUE}) {
            Check.thrown("house(" + n + ") of twenty", ARGUMENT, () -> x.house(n));
            Check.due("the tape stays", x.count(8), 20);
        }
        Check.due("house(20)", x.house(20), 1);
        Check.due("dear", x.count(6), 6);
    }

    private static void faultAnswers() {
        Check.sentence("Of the latest house() that threw nothing, what 0: the FAULT (0 without, and at first), 1: its place (NONE without).");
        LitNextDoor x = new LitNextDoor();
        Check.due("at first", x.fault(0), 0);
        Check.due("at first", x.fault(1), NONE);
        Check.house(x, "dear @");
        Check.due("with one", x.fault(0), 1);
        Check.due("with one", x.fault(1), 5);
        Check.thrown("one that throws", ARGUMENT, () -> x.house(1));
        Check.due("behind a throw", x.fault(0), 1);
        Check.due("behind a throw", x.fault(1), 5);
        Check.house(x, "dear 1000;");
        Check.due("the latest", x.fault(0), 3);
        x.house(0);
        Check.due("without", x.fault(0), 0);
        Check.due("without", x.fault(1), NONE);
        Check.sentence("NONE for others.");
        Check.house(x, "dear @");
        for (int what : new int[] {-1, 2, 3, Integer.MIN_VALUE, Integer.MAX_VALUE}) {
            Check.due("fault(" + what + ")", x.fault(what), NONE);
        }
    }

    // ---- lines

    private static void lengths() {
        Check.sentence("THE HOUSE is a TEXT of at most 800 bytes (without one: no ROOMS): { LINE ; }");
        Check.due("an empty text", taken("", 0).count(1), 0);
        Check.due("blanks alone", taken(" \n ", 0).count(1), 0);
        Check.due("800 blanks", taken(" ".repeat(800), 0).count(0), 0);
        Check.due("800 bytes", taken(" ".repeat(792) + "rooms 3;", 1).count(1), 3);
        refused(2, " ".repeat(793) + "rooms 3^");
        refused(3, " ".repeat(791) + "dear ^1000");
        taken("dear 1;", 1);
        taken("dear1;".repeat(133), 133);
        Check.due("many lines", taken("dear 1;".repeat(114), 114).count(0), 114);
        refused(2, "dear 1;^;");
        refused(2, "^;dear 1;");
        refused(2, "dear 1;dear 2^");
    }

    private static void forms() {
        Check.sentence("LINE: rooms N | pane N to N lets N [ both ] | lamp bright N oil N | want N least N [ most N ] [ from N to N ] "
            + "| hole N to N lets N costs N [ both ] | burns N for N | hates N N | dear N.");
        String[] shorter = {"pane 0 to 1 lets 5;", "want 0 least 4;", "want 0 least 4 most 5;", "want 0 least 4 from 6 to 7;",
            "hole 1 to 0 lets 5 costs 6;"};
        for (String line : shorter) {
            taken("rooms 3;" + line, 2);
        }
        for (int i = 1; i < FORMS.length; i++) {
            taken(FORMS[0] + FORMS[i], 2);
            taken((FORMS[0] + FORMS[i]).replace(" ", "\n"), 2);
        }
        refused(2, "rooms 3;want 0 least 4 from 6 to 7 ^most 5;");
        refused(2, "rooms 3;want 0 ^most 5;");
        refused(2, "rooms 3;want 0 ^from 6 to 7;");
        refused(2, "rooms 3;hole 1 to 0 lets 5 ^both costs 6;");
        refused(2, "rooms 3;pane 0 to 1 ^both lets 5;");
        refused(2, "lamp ^oil 1 bright 2;");
        refused(2, "rooms 3;hates 0 1 ^2;");
        refused(2, "^lets 5;");
        refused(2, "^7;");
    }

    /** Without a token of a line the one behind it can't stand there. */
    private static void tokensLeftOut() {
        for (String form : FORMS) {
            String[] tokens = form.split(" ");
            for (int i = 0; i < tokens.length; i++) {
                StringBuilder marked = new StringBuilder(form.startsWith("rooms") ? "" : "rooms 3 ;");
                for (int j = 0; j < tokens.length; j++) {
                    if (j != i) {
                        marked.append(j == i + 1 ? "^" : "").append(tokens[j]).append(j == tokens.length - 1 ? "" : " ");
                    }
                }
                String text = marked.append(i == tokens.length - 1 ? "^" : "").toString();
                if (tokens[i].equals("both")) {
                    taken(text.replace("^", ""), 2);
                } else if (tokens[i].equals("0") && form.startsWith("hates")) {
                    refused(2, "rooms 3 ;hates 2 ^;");
                } else {
                    refused(2, text);
                }
            }
        }
    }

    private static void tokensTwice() {
        for (String form : FORMS) {
            String[] tokens = form.split(" ");
            for (int i = 0; i < tokens.length; i++) {
                StringBuilder marked = new StringBuilder(form.startsWith("rooms") ? "" : "rooms 3;");
                for (int j = 0; j < tokens.length; j++) {
                    marked.append(tokens[j]).append(' ').append(j == i ? "^" + tokens[j] + " " : "");
                }
                // A second number behind hates is its other room: the same one can't be that.
                refused(form.startsWith("hates") && i == 1 ? 3 : 2, marked.toString());
            }
        }
    }

    /** A word with another letter first or last, one letter fewer or more, is another word. */
    private static void wordsOtherwise() {
        for (String form : FORMS) {
            String[] tokens = form.split(" ");
            for (int i = 0; i < tokens.length; i++) {
                String word = tokens[i];
                if (word.matches("[a-z]+")) {
                    String[] others = {"x" + word.substring(1), word.substring(0, word.length() - 1) + "x",
                        word.substring(0, word.length() - 1), word + "x", "x" + word};
                    for (String other : others) {
                        StringBuilder marked = new StringBuilder(form.startsWith("rooms") ? "" : "rooms 3;");
                        for (int j = 0; j < tokens.length; j++) {
                            marked.append(j == i ? "^" + other : tokens[j]).append(' ');
                        }
                        refused(2, marked.toString());
                    }
                }
            }
        }
    }

    private static void rooms() {
        Check.sentence("rooms 1 to 16, once, ahead of all lines that tell ROOMS (0 to rooms less 1).");
        bounds("rooms ", 1, 16, ";");
        for (int rooms = 1; rooms <= 16; rooms++) {
            LitNextDoor x = taken("rooms " + rooms + ";", 1);
            int last = rooms - 1;
            Check.due("rooms", x.count(1), rooms);
            Check.due("the last one", x.next(last), 0);
            Check.thrown("the next beyond it", java.util.NoSuchElementException.class, () -> x.next(last + 1));
            bounds("rooms " + rooms + ";want ", 0, last, " least 0;");
        }
        refused(4, "rooms 3;^rooms 3;");
        refused(4, "rooms 3;dear 1;^rooms 17;");
        for (String line : TELL_ROOMS) {
            refused(2, "^" + line + "rooms 2;");
            refused(2, "dear 1;^" + line);
            taken("rooms 2;" + line, 2);
        }
        taken("lamp bright 1 oil 1;dear 1;rooms 2;", 3);
    }

    private static void roomNumbers() {
        bounds("rooms 3;pane ", 0, 2, " to 1 lets 5;");
        bounds("rooms 3;pane 1 to ", 0, 2, " lets 5;");
        bounds("rooms 3;hole ", 0, 2, " to 1 lets 5 costs 5;");
        bounds("rooms 3;hole 1 to ", 0, 2, " lets 5 costs 5;");
        bounds("rooms 3;burns 5 for ", 0, 2, ";");
        bounds("rooms 3;hates ", 0, 2, " 1;");
        bounds("rooms 3;hates 1 ", 0, 2, ";");
        bounds("rooms 16;pane ", 0, 15, " to 1 lets 5;");
        bounds("rooms 16;hole 1 to ", 0, 15, " lets 5 costs 5;");
    }

    private static void panes() {
        Check.sentence("pane: from one ROOM to another one, hundredths 1 to 100 (both: the other way, too);");
        bounds("rooms 2;pane 0 to 1 lets ", 1, 100, ";");
        bounds("rooms 2;pane 0 to 1 lets ", 1, 100, " both;");
        refused(3, "rooms 2;pane 0 to ^0 lets 5;");
        refused(3, "rooms 2;pane 1 to ^1 lets 5 both;");
        refused(3, "rooms 1;pane 0 to ^0 lets 5;");
        LitNextDoor x = taken("rooms 3;lamp bright 999 oil 0;pane 0 to 1 lets 1;pane 2 to 1 lets 100 both;", 4);
        int[] next = {0, 5, 2};
        int[] light = {0, 9 + 999, 999};
        for (int room = 0; room < 3; room++) {
            x.hang(room, 0, 1);
        }
        for (int room = 0; room < 3; room++) {
            Check.due("next", x.next(room), next[room]);
            Check.due("light", x.light(room, 0), light[room]);
        }
    }

    private static void panesMost() {
        // The shortest pane has 14 bytes, so that 800 bytes hold 56 beside rooms, and 60 can't be reached.
        Check.sentence("at most 60 (numbered from 0 on);");
        LitNextDoor x = taken("rooms3;pane0to1lets9;" + "pane0to1lets1;".repeat(54) + "pane2to1lets7;", 57);
        Check.due("panes", x.count(2), 56);
        Check.due("the first", x.pane(0, 2), 9);
        Check.due("the second", x.pane(1, 2), 1);
        Check.due("the last but one", x.pane(54, 2), 1);
        Check.due("the last", x.pane(55, 2), 7);
        Check.due("the last", x.pane(55, 0), 2);
        Check.thrown("none behind it", java.util.NoSuchElementException.class, () -> x.pane(56, 0));
    }

    private static void panesTogether() {
        Check.sentence("of two from one ROOM to the same one both let light through.");
        LitNextDoor x = taken("rooms 2;lamp bright 150 oil 0;pane 0 to 1 lets 1;pane 0 to 1 lets 1;pane 1 to 0 lets 3;pane 0 to 1 lets 5 both;", 6);
        x.hang(0, 0, 1);
        x.hang(1, 0, 1);
        Check.due("1 and 1 and 7", x.light(1, 0), 9);
        Check.due("4 and 7", x.light(0, 0), 11);
    }

    private static void lamps() {
        Check.sentence("lamp: KINDS are numbered from 0 on as they come, at most 4: bright 1 to 999, oil 0 to 99 an hour.");
        bounds("lamp bright ", 1, 999, " oil 0;");
        bounds("lamp bright 1 oil ", 0, 99, ";");
        String four = "lamp bright 1 oil 99;lamp bright 999 oil 0;lamp bright 5 oil 6;lamp bright 7 oil 8;";
        LitNextDoor x = taken(four, 4);
        int[][] due = {{1, 99}, {999, 0}, {5, 6}, {7, 8}};
        for (int kind = 0; kind < 4; kind++) {
            Check.due("bright", x.kind(kind, 0), due[kind][0]);
            Check.due("oil", x.kind(kind, 1), due[kind][1]);
        }
        Check.thrown("a fifth", java.util.NoSuchElementException.class, () -> x.kind(4, 0));
        refused(4, four + "^lamp bright 1 oil 1;");
        refused(4, four + "dear 1;^lamp");
    }

    private static void wantLight() {
        Check.sentence("want: a ROOM wants LIGHT least (0 to 9999) and most (not below that, 9999 at most; 99999 without)");
        bounds("rooms 1;want 0 least ", 0, 9999, ";");
        bounds("rooms 1;want 0 least 0 most ", 0, 9999, ";");
        bounds("rooms 1;want 0 least 17 most ", 17, 9999, ";");
        bounds("rooms 1;want 0 least 9999 most ", 9999, 9999, ";");
        refused(3, "rooms 1;want 0 least 17 most ^0;");
    }

    private static void wantWithoutMost() {
        // 48 panes let through 999 each: far more than 9999, and as much as a text can tell.
        String text = "rooms2;lamp bright999oil0;" + "pane0to1lets100;".repeat(46);
        LitNextDoor x = taken(text + "want1least9999;", 49);
        x.hang(0, 0, 1);
        Check.due("light", x.light(1, 0), 46 * 999);
        Check.due("without most it is borne", x.dark(0), 0);
        LitNextDoor y = taken("rooms2;lamp bright999oil0;" + "pane0to1lets100;".repeat(44) + "want1least0most9999;", 47);
        y.hang(0, 0, 1);
        Check.due("most 9999", y.dark(0), 2);
    }

    private static void wantHours() {
        Check.sentence("in HOURS from, to (0 to 23, the second not below the first; 0 to 23 without);");
        bounds("rooms 1;want 0 least 1 from ", 0, 23, " to 23;");
        bounds("rooms 1;want 0 least 1 from 0 to ", 0, 23, ";");
        bounds("rooms 1;want 0 least 1 from 9 to ", 9, 23, ";");
        bounds("rooms 1;want 0 least 1 most 1 from 23 to ", 23, 23, ";");
        int[][] hours = {{0, 0}, {0, 23}, {23, 23}, {5, 9}};
        for (int[] h : hours) {
            LitNextDoor x = taken("rooms 1;want 0 least 1 from " + h[0] + " to " + h[1] + ";", 2);
            for (int hour = 0; hour < 24; hour++) {
                Check.due("dark(" + hour + ")", x.dark(hour), hour >= h[0] && hour <= h[1] ? 1 : 0);
            }
        }
        LitNextDoor x = taken("rooms 1;want 0 least 1;", 2);
        for (int hour = 0; hour < 24; hour++) {
            Check.due("without", x.dark(hour), 1);
        }
    }

    private static void wantsMost() {
        Check.sentence("at most 24 WANTS.");
        String most = "rooms 2;" + "want 0 least 0;".repeat(23) + "want 1 least 1;";
        LitNextDoor x = taken(most, 25);
        Check.due("wants", x.count(4), 24);
        Check.due("the 24th counts", x.dark(0), 2);
        refused(4, most + "^want 0 least 0;");
        refused(4, most + "^want 9");
    }

    private static void holes() {
        Check.sentence("hole: likewise a pane that may be made, costs 0 to 99;");
        bounds("rooms 2;hole 0 to 1 lets ", 1, 100, " costs 5;");
        bounds("rooms 2;hole 0 to 1 lets 5 costs ", 0, 99, ";");
        bounds("rooms 2;hole 0 to 1 lets 5 costs ", 0, 99, " both;");
        refused(3, "rooms 2;hole 0 to ^0 lets 5 costs 5;");
        refused(3, "rooms 2;hole 1 to ^1 lets 5 costs 5 both;");
        LitNextDoor x = taken("rooms 2;hole 0 to 1 lets 5 costs 5 both;", 2);
        Check.due("it isn't made", x.next(1), 0);
        Check.due("it is no pane", x.count(2), 0);
        Check.due("both ways", x.hole(0, 4), 100);
        Check.due("one way", taken("rooms 2;hole 0 to 1 lets 5 costs 5;", 2).hole(0, 4), 0);
        Check.sentence("at most 8.");
        String eight = "rooms 2;" + "hole 0 to 1 lets 1 costs 0;".repeat(7) + "hole 1 to 0 lets 2 costs 3;";
        LitNextDoor y = taken(eight, 9);
        Check.due("holes", y.count(5), 8);
        Check.due("the eighth", y.hole(7, 3), 3);
        Check.thrown("no ninth", java.util.NoSuchElementException.class, () -> y.hole(8, 0));
        refused(4, eight + "^hole 0 to 1 lets 1 costs 0;");
        refused(4, eight + "dear 5;^hole 7");
    }

    private static void burns() {
        Check.sentence("burns: what a lamp costs (0 to 99; 10 without) the tenant of a ROOM (told behind 'for'),");
        bounds("rooms 2;burns ", 0, 99, " for 1;");
        LitNextDoor x = taken("rooms 4;burns 0 for 1;burns 99 for 2;burns 3 for 3;burns 2 for 3;", 5);
        int[] due = {10, 0, 99, 2};
        for (int room = 0; room < 4; room++) {
            Check.due("burns of " + room, x.of(room, 2), due[room]);
        }
    }

    private static void hates() {
        Check.sentence("hates: the first ROOM can't bear light of the second one (another one; all that are told count),");
        refused(3, "rooms 2;hates 0 ^0;");
        refused(3, "rooms 2;hates 1 ^1;");
        LitNextDoor x = taken("rooms 16;hates 0 15;hates 0 1;hates 0 15;hates 15 0;hates 0 7;", 6);
        Check.due("all that are told", x.hated(0), 1 << 15 | 1 << 7 | 2);
        Check.due("the other way", x.hated(15), 1);
        Check.due("nothing is told", x.hated(1), 0);
    }

    private static void dear() {
        Check.sentence("dear: what it costs to be dark (0 to 999; 50 without): later ones strike.");
        bounds("dear ", 0, 999, ";");
        Check.due("without", taken("rooms 2;", 1).count(6), 50);
        Check.due("0", taken("dear 0;", 1).count(6), 0);
        Check.due("999", taken("dear 999;", 1).count(6), 999);
        Check.due("the later one", taken("dear 999;dear 3;rooms 1;dear 4;", 4).count(6), 4);
        Check.due("a new house is without", Check.house(Check.built("dear 3;"), "rooms 1;"), 1);
        LitNextDoor x = taken("dear 3;", 1);
        x.house(0);
        Check.due("a text without it", x.count(6), 50);
    }

    // ---- tokens and faults

    private static void tokens() {
        Check.sentence("TOKENS, as long as they go, between them blanks (10, 32): words (small letters), N (1 to 5 digits), the sign ;.");
        for (int sign = 0; sign < 256; sign++) {
            String text = "dear" + (char) sign + "7;";
            if (sign == 10 || sign == 32 || sign >= '0' && sign <= '9') {
                taken(text, 1);
            } else if (sign >= 'a' && sign <= 'z') {
                refused(2, "^" + text);
            } else {
                refused(sign == ';' ? 2 : 1, "dear^" + text.substring(4));
            }
        }
        taken("\n\n dear \n 7 \n ; \n", 1);
        taken("dear7;rooms2;", 2);
        Check.due("five digits", taken("dear 00007;", 1).count(6), 7);
        Check.due("one digit", taken("dear 7;", 1).count(6), 7);
        Check.due("digits as long as they go", taken("dear 77;", 1).count(6), 77);
        refused(2, "dear 7 ^7;");
        refused(2, "^d ear 7;");
        refused(2, "^de\nar 7;");
        refused(2, "^dearx 7;");
        refused(2, "^dea 7;");
        refused(2, "^zdear 7;");
        refused(2, "rooms 2;pane 0 ^tolets 7;");
        taken("rooms 2;pane 0to1lets7both;", 2);
        refused(2, "rooms 2;pane 0 to 1 lets 7 ^bothboth;");
    }

    private static void firstFault() {
        Check.sentence("FAULTS, the first along the text,");
        refused(3, "dear ^1000;dear @;rooms;");
        refused(2, "dear ^;dear 1000;@");
        refused(1, "dear ^@;dear 1000;rooms;");
        refused(4, "rooms 1;^rooms 17;dear @;");
        refused(3, "rooms 2;want ^2 least 10000 most 99999;");
        refused(3, "rooms 2;pane 0 to ^0 lets 101;");
        refused(2, "rooms 2;want 0 least 5 ^dear 1000");
    }

    private static void leastKind() {
        Check.sentence("of one TOKEN the least kind:");
        // No token begins so, and none of its sort could stand there or would be within its bounds.
        refused(1, "dear ^100000;");
        refused(1, "dear 1 ^100000;");
        refused(1, "^100000 5;");
        refused(1, "rooms 2;pane 0 to ^000000 lets 5;");
        // It can't stand there, and would be out of its bounds, or one too many.
        refused(2, "dear 1 ^1000;");
        refused(2, "rooms ^rooms 2;");
        refused(2, "rooms 2 ^rooms 2;");
        String four = "lamp bright 1 oil 1;".repeat(4);
        refused(2, four + "dear 5 ^lamp bright 1 oil 1;");
        refused(2, four + "dear ^lamp;");
        String most = "rooms 2;" + "want 0 least 0;".repeat(24);
        refused(2, most + "dear ^want 0 least 0;");
    }

    private static void faultOne() {
        Check.sentence("1 no TOKEN begins so (6 digits and more: at their first).");
        refused(1, "^@");
        refused(1, "dear 1;^A");
        refused(1, "dear 1;^-1");
        refused(1, "dear ^-1;");
        refused(1, "dear 1^,");
        refused(1, "dear 1;^\t");
        refused(1, "dear 1;\n^\r");
        refused(1, "dear 1;^" + (char) 0);
        refused(1, "dear 1;^" + (char) 255);
        refused(1, "dear 1;^" + (char) 160);
        refused(1, "dear 1;^" + (char) 138);
        refused(1, "dear ^123456;");
        refused(1, "dear ^000001;");
        refused(1, "dear ^" + "0".repeat(790) + ";");
        refused(1, "dear ^4294967297;");
        refused(3, "dear ^12345;");
        refused(1, "^Dear 1;");
        refused(2, "^de");
        refused(2, "^deAr 1;");
    }

    private static void faultTwo() {
        Check.sentence("2 it can't stand there (the end: the text's length; a LINE that tells ROOMS ahead of rooms).");
        refused(2, "dear^");
        refused(2, "dear   \n^");
        refused(2, "dear 5^");
        refused(2, "rooms 2;pane 0 to 1 lets 5 both ^");
        refused(2, " ".repeat(796) + "dear^");
        LitNextDoor x = new LitNextDoor();
        Check.feed(x, Probe.bytes("dear 5;             "));
        Check.due("the text ends ahead of the tape", x.house(6), -12);
        Check.due("the text's length", x.fault(1), 6);
        for (String line : TELL_ROOMS) {
            refused(2, "^" + line);
            refused(2, " dear 1; ^" + line + "rooms 2;");
        }
        // It is the line's first token, whatever comes behind it.
        refused(2, "^burns 100 for 99;");
        refused(2, "^want @");
        refused(2, "^hates");
    }

    private static void faultThree() {
        Check.sentence("3 N is out of its bounds (a ROOM to itself, too).");
        refused(3, "rooms ^0;");
        refused(3, "rooms ^00000;");
        refused(3, "rooms ^00017;");
        refused(3, "dear ^01000;");
        refused(3, "rooms 3;pane 2 to ^2 lets 1;");
        refused(3, "rooms 3;pane 2 to ^00002 lets 1;");
        refused(3, "rooms 3;hole 2 to ^2 lets 1 costs 1;");
        refused(3, "rooms 3;hates 2 ^2;");
        refused(3, "rooms 3;pane ^3 to 3 lets 1;");
        refused(3, "rooms 3;pane 0 to ^3 lets 1;");
        taken("rooms 3;pane 2 to 0 lets 1;hole 2 to 1 lets 2 costs 2;hates 2 1;burns 2 for 2;want 2 least 2 most 2;", 6);
    }

    private static void faultFour() {
        Check.sentence("4 the first TOKEN of a second rooms, a 61st pane, a 5th lamp, a 25th want, a 9th hole.");
        refused(4, "rooms 2; ^rooms");
        refused(4, "rooms 2; ^rooms 2;");
        refused(4, "lamp bright 1 oil 1;".repeat(4) + "\n^lamp @");
        refused(4, "rooms 2;" + "want 0 least 0;".repeat(24) + " ^want ;");
        refused(4, "rooms 2;" + "hole 0 to 1 lets 1 costs 1;".repeat(8) + " ^hole hole");
        taken("rooms 2;" + "burns 1 for 0;".repeat(50), 51);
        taken("rooms 2;" + "hates 1 0;".repeat(70), 71);
    }
}
