import java.util.Random;

/**
 * What an object keeps from an earlier call strikes through to no later one: three houses in turn on one object,
 * restored from images or told anew, and each answer is that of a new object that knows but this house.
 */
public final class KeptTest {
    private static final int HOUSES = 3;
    private static final int ASKED = 120;
    private static final int SORTS = 8;

    private KeptTest() {
    }

    public static void main(String[] args) {
        sameWants();
        sameRoom();
        Random draw = new Random(20261119);
        for (int i = 0; i < 120; i++) {
            inTurn(draw);
        }
        Check.end("KeptTest");
    }

    /** Hours with other wants, then another house whose wants are the first of its own, too. */
    private static void sameWants() {
        Check.sentence("so that all ROOMS are RIGHT: that with the least oil");
        String dim = "rooms 2;pane 0 to 1 lets 50 both;lamp bright 10 oil 1;lamp bright 40 oil 3;";
        LitNextDoor x = Check.built(dim + "want 1 least 5 from 0 to 1;want 0 least 6 from 1 to 2;");
        x.image(0);
        int[] oilByHour = {1, 4, 3, 0, 3, 4, 1};
        int[] hours = {0, 1, 2, 3, 2, 1, 0};
        for (int i = 0; i < hours.length; i++) {
            Check.due("oil in " + hours[i], x.mixed(hours[i], -1), oilByHour[i]);
            Check.due("oil again", x.mixed(hours[i], -1), oilByHour[i]);
        }
        Check.due("another house", Check.house(x, dim + "want 1 least 6 from 0 to 1;"), 5);
        Check.due("oil by other wants", x.mixed(0, -1), 3);
        x.restore(0);
        Check.due("the first house again", x.mixed(0, -1), 1);
    }

    private static void sameRoom() {
        Check.sentence("of like ones the first, ROOM by ROOM.");
        LitNextDoor x = Check.built("rooms 3;pane 0 to 1 lets 1 both;pane 1 to 2 lets 1 both;");
        x.image(2);
        for (int i = 0; i < 2; i++) {
            Check.due("from 0 by 1", x.round(0, 1), 1);
            Check.due("from 1 by 0", x.round(1, 1), 0);
            Check.due("from 2 by 1", x.round(2, 1), 1);
        }
        Check.due("another house", Check.house(x, "rooms 3;pane 0 to 2 lets 1 both;pane 1 to 2 lets 1 both;"), 3);
        Check.due("from 2 by 0", x.round(2, 1), 0);
        x.restore(2);
        Check.due("from 2 by 1 again", x.round(2, 1), 1);
    }

    private static void inTurn(Random draw) {
        Check.sentence("All is as in an IMAGE.");
        String[] texts = new String[HOUSES];
        LitNextDoor[] alone = new LitNextDoor[HOUSES];
        LitNextDoor x = new LitNextDoor();
        for (int i = 0; i < HOUSES; i++) {
            StringBuilder text = new StringBuilder();
            int rooms = 2 + draw.nextInt(5);
            Model.drawn(draw, rooms, rooms + draw.nextInt(2 * rooms), text);
            texts[i] = text.toString();
            alone[i] = Check.built(texts[i]);
            Check.house(x, texts[i]);
            x.image(i);
        }
        int now = HOUSES - 1;
        for (int i = 0; i < ASKED; i++) {
            if (draw.nextInt(3) == 0) {
                now = draw.nextInt(HOUSES);
                x.restore(now);
            }
            ask(x, alone[now], draw, texts[now]);
        }
    }

    private static void ask(LitNextDoor x, LitNextDoor alone, Random draw, String text) {
        int sort = draw.nextInt(SORTS);
        int room = draw.nextInt(x.count(1));
        int hour = draw.nextInt(24);
        int more = draw.nextInt(1000);
        Check.due("sort " + sort + " of " + text, answer(x, sort, room, hour, more), answer(alone, sort, room, hour, more));
    }

    private static long answer(LitNextDoor x, int sort, int room, int hour, int more) {
        switch (sort) {
            case 0: return x.mixed(hour, more % (x.count(1) + 2) - 2);
            case 1: return x.round(room, more % 8 - 1);
            case 2: return x.carry(1, hour, 23, more % (24 - hour + 1) - 1);
            case 3: return x.carry(2, 0, hour, more % (2 * hour + 3) - 1);
            case 4: return (x.owed(room) ? 1 : 0) + 1000 * x.upper() + 1000000000L * x.lower();
            case 5: return x.cost(more & (1 << x.count(1)) - 1);
            case 6: return x.count(3) > 0 ? x.day(more % x.count(3)) : 0;
            default:
                x.tray(0, 2, x.count(1));
                x.write(0, room, more % 60);
                return x.sooner(0);
        }
    }
}
