import java.util.Random;

/** Houses by draws: each answer is the one that the model works out. */
public final class ModelTest {
    private static final int[] LARGE_ROUND_ROOMS = {8, 10, 12};

    private static int moves = 0;

    private ModelTest() {
    }

    public static void main(String[] args) {
        Random draw = new Random(20261118);
        for (int i = 0; i < 1500; i++) {
            int rooms = 1 + draw.nextInt(6);
            StringBuilder text = new StringBuilder();
            Model m = Model.drawn(draw, rooms, draw.nextInt(3 * rooms), text);
            LitNextDoor x = Check.built(text.toString());
            told(x, m, text.toString());
            hung(x, m, draw);
            sets(x, m);
            if (i % 3 == 0) {
                carried(x, m, draw);
                tenants(x, m, draw);
                rounds(x, m);
            }
        }
        for (int i = 0; i < 300; i++) {
            onTheMove(draw);
        }
        for (int i = 0; i < 400; i++) {
            wanting(draw);
        }
        for (int i = 0; i < 60; i++) {
            large(draw, i);
        }
        for (int i = 0; i < 60; i++) {
            oneObject(draw);
        }
        Check.due("lamps were carried often enough", moves > 200, true);
        grids();
        rules(draw);
        Check.end("ModelTest");
    }

    private static void told(LitNextDoor x, Model m, String text) {
        int[] counts = {m.lines, m.rooms, m.panes.size(), m.kinds.size(), m.wants.size(), m.holes.size(), m.dear, 0, 0};
        for (int what = 0; what < counts.length; what++) {
            Check.due("count(" + what + ") of " + text, x.count(what), counts[what]);
        }
        for (int i = 0; i < m.panes.size(); i++) {
            for (int what = 0; what < 4; what++) {
                Check.due("pane of " + text, x.pane(i, what), m.panes.get(i)[what]);
            }
        }
        for (int i = 0; i < m.kinds.size(); i++) {
            Check.due("kind of " + text, x.kind(i, 0), m.kinds.get(i)[0]);
            Check.due("kind of " + text, x.kind(i, 1), m.kinds.get(i)[1]);
        }
        int never = 0;
        for (int room = 0; room < m.rooms; room++) {
            Check.due("next of " + text, x.next(room), m.next(room));
            Check.due("hated of " + text, x.hated(room), m.hates[room]);
            Check.due("of 2 of " + text, x.of(room, 2), m.burns[room]);
            never |= m.next(room) == 0 ? 1 << room : 0;
        }
        Check.due("never of " + text, x.never(), never);
    }

    private static void hung(LitNextDoor x, Model m, Random draw) {
        for (int i = 0; i < 2 * m.rooms; i++) {
            int room = draw.nextInt(m.rooms);
            int kind = draw.nextInt(m.kinds.size() + 1) - 1;
            int hours = draw.nextInt() & 0xFFFFFF;
            Check.due("hang", x.hang(room, kind, hours), m.lampKind[room]);
            m.lampKind[room] = kind;
            m.lampHours[room] = kind == -1 ? 0 : hours;
        }
        for (int room = 0; room < m.rooms; room++) {
            Check.due("of 0", x.of(room, 0), m.lampKind[room]);
            Check.due("of 1", x.of(room, 1), m.lampHours[room]);
        }
        for (int hour = 0; hour < 24; hour += 1 + draw.nextInt(6)) {
            int[] burning = m.burningAt(hour);
            Check.due("dark", x.dark(hour), m.dark(hour, burning));
            Check.due("spare", x.spare(hour), m.spare(hour));
            Check.due("angry", x.angry(hour), m.angry(hour));
            for (int room = 0; room < m.rooms; room++) {
                Check.due("light", x.light(room, hour), m.light(room, burning));
                Check.due("by", x.by(room, hour), m.by(room, hour));
                Check.due("out", x.out(room, hour), m.out(room, hour));
            }
        }
        Check.due("judge", x.judge(), m.judge());
        Check.due("oil", x.oil(), m.oil());
        int seed = draw.nextInt();
        int fail = draw.nextInt(101);
        int[] night = m.night(seed, fail);
        for (int what = 0; what < 3; what++) {
            Check.due("night", x.night(seed, fail, what), night[what]);
        }
        int set = draw.nextInt(1 << m.rooms);
        int other = draw.nextInt(1 << m.rooms) & draw.nextInt(1 << m.rooms);
        Check.due("lights", x.lights(set, other), m.lights(set, other, m.panes));
    }

    private static void covers(LitNextDoor x, Model m) {
        for (int what = 0; what < 4; what++) {
            Check.due("best(" + what + ")", x.best(what), m.best(what));
        }
        Check.due("gap", x.gap(), m.gap());
        int[] alwaysEver = m.alwaysEver();
        Check.due("always", x.always(), alwaysEver[0]);
        Check.due("ever", x.ever(), alwaysEver[1]);
    }

    private static void sets(LitNextDoor x, Model m) {
        covers(x, m);
        for (int room = 0; room < m.rooms; room++) {
            Check.due("barred", x.barred(room), m.barred(room));
        }
        for (int i = 0; i < m.holes.size(); i++) {
            for (int what = 0; what < 4; what++) {
                Check.due("hole", x.hole(i, what), m.holes.get(i)[what]);
            }
            Check.due("hole 4", x.hole(i, 4), m.saves(i));
        }
        Check.due("which", x.which(), m.which());
        for (int kind = 0; kind < m.kinds.size(); kind++) {
            for (int hour = 0; hour < 24; hour += 5) {
                Check.due("bright", x.bright(kind, hour), m.bright(kind, hour));
            }
            Check.due("day", x.day(kind), m.day(kind));
        }
        for (int hour = 3; hour < 24 && m.rooms < 6; hour += 9) {
            mixed(x, m, hour);
        }
    }

    private static void mixed(LitNextDoor x, Model m, int hour) {
        int[] mixed = m.mixed(hour);
        Check.due("mixed oil", x.mixed(hour, -1), mixed == null ? -1 : mixed[0]);
        Check.due("mixed lamps", x.mixed(hour, -2), mixed == null ? -1 : mixed[1]);
        for (int room = 0; room < m.rooms; room++) {
            Check.due("mixed kind", x.mixed(hour, room), mixed == null ? -1 : mixed[2 + room]);
        }
    }

    private static void carried(LitNextDoor x, Model m, Random draw) {
        int[][] walks = m.walks();
        for (int one = 0; one < m.rooms; one++) {
            for (int other = 0; other < m.rooms; other++) {
                Check.due("walk", x.walk(one, other), walks[one][other] < 1000 ? walks[one][other] : -1);
            }
        }
        for (int n = 1; n <= 2; n++) {
            int from = draw.nextInt(24);
            carriedFor(x, m, n, from, from + draw.nextInt(24 - from));
        }
    }

    /** Whether the lamps were carried at all. */
    private static boolean carriedFor(LitNextDoor x, Model m, int n, int from, int to) {
        int[] told = m.carry(n, from, to);
        Check.due("carry sum", x.carry(n, from, to, -1), told == null ? -1 : told[0]);
        for (int what = 0; what < n * (to - from + 1); what++) {
            Check.due("carry place", x.carry(n, from, to, what), told == null ? -1 : told[1 + what]);
        }
        return told != null && told[0] > 0;
    }

    /** Many panes and modest wants, so that there mostly are lamps by which all rooms are right. */
    private static void wanting(Random draw) {
        Model m = new Model();
        m.rooms = 3 + draw.nextInt(6);
        StringBuilder text = new StringBuilder("rooms " + m.rooms + ";");
        int kinds = 1 + draw.nextInt(m.rooms > 6 ? 2 : 4);
        for (int i = 0; i < kinds; i++) {
            int[] kind = {20 + draw.nextInt(120), draw.nextInt(4)};
            m.kinds.add(kind);
            text.append("lamp bright ").append(kind[0]).append(" oil ").append(kind[1]).append(';');
        }
        for (int i = m.rooms + draw.nextInt(m.rooms); i > 0; i--) {
            m.drawPane(draw, text);
        }
        for (int i = 1 + draw.nextInt(m.rooms); i > 0; i--) {
            int least = 1 + draw.nextInt(40);
            int[] want = {draw.nextInt(m.rooms), least, least + 20 + draw.nextInt(60), 0, 4 + draw.nextInt(20)};
            m.wants.add(want);
            text.append("want ").append(want[0]).append(" least ").append(least).append(" most ").append(want[2]);
            text.append(" from 0 to ").append(want[4]).append(';');
        }
        for (int i = draw.nextInt(3); i > 0; i--) {
            m.drawHole(draw, text);
        }
        m.lines = kinds + 1 + m.panes.size() + m.wants.size() + m.holes.size();
        LitNextDoor x = Check.built(text.toString());
        told(x, m, text.toString());
        sets(x, m);
        mixed(x, m, 0);
        mixed(x, m, 7);
        hung(x, m, draw);
    }

    /** In each hour but few rooms want light, and other ones than in the hour ahead. */
    private static void onTheMove(Random draw) {
        Model m = new Model();
        m.rooms = 2 + draw.nextInt(6);
        StringBuilder text = new StringBuilder("rooms " + m.rooms + ";");
        for (int i = 0; i < m.rooms + draw.nextInt(m.rooms); i++) {
            m.drawPane(draw, text);
        }
        int hours = 1 + draw.nextInt(8);
        int now = draw.nextInt(2);
        for (int i = 0; i < hours; i++) {
            int then = now + draw.nextInt(2);
            int[] want = {draw.nextInt(m.rooms), 1, 99999, now, then};
            m.wants.add(want);
            text.append("want ").append(want[0]).append(" least 1 from ").append(now).append(" to ").append(then).append(';');
            now = then + draw.nextInt(2);
        }
        LitNextDoor x = Check.built(text.toString());
        // The same object is asked for other hours in turn, so that no answer may be of an earlier call.
        for (int n = 1; n <= 2; n++) {
            for (int to = 0; to <= now; to += 2) {
                moves += carriedFor(x, m, n, 0, to) ? 1 : 0;
                moves += carriedFor(x, m, n, to / 2, to) ? 1 : 0;
            }
            moves += carriedFor(x, m, 3 - n, 0, now) ? 1 : 0;
        }
    }

    /** House by house on one object: nothing that was worked out for an earlier one may strike through. */
    private static void oneObject(Random draw) {
        LitNextDoor x = new LitNextDoor();
        for (int i = 0; i < 5; i++) {
            int rooms = 1 + draw.nextInt(6);
            StringBuilder text = new StringBuilder();
            Model m = Model.drawn(draw, rooms, draw.nextInt(3 * rooms), text);
            Check.due("house of " + text, Check.house(x, text.toString()), m.lines);
            told(x, m, text.toString());
            hung(x, m, draw);
            sets(x, m);
            for (int n = 1; n <= 2; n++) {
                carriedFor(x, m, n, 0, 5);
            }
            tenants(x, m, draw);
            rounds(x, m);
        }
    }

    private static void tenants(LitNextDoor x, Model m, Random draw) {
        for (int set = 0; set < 1 << m.rooms; set++) {
            Check.due("cost", x.cost(set), m.cost(set));
        }
        long[] told = new long[m.rooms];
        int upTo = 1 + draw.nextInt(60);
        x.tray(2, 1 + draw.nextInt(3), m.rooms + draw.nextInt(3));
        for (int room = 0; room < m.rooms; room++) {
            long[] owed = m.owed(room);
            Check.due("owed", x.owed(room), true);
            Check.due("upper", x.upper(), owed[0]);
            Check.due("lower", x.lower(), owed[1]);
            told[room] = draw.nextInt(3) == 0 ? draw.nextInt(upTo) : owed[0] / owed[1] + draw.nextInt(3);
            x.write(2, room, told[room]);
        }
        Check.due("sooner", x.sooner(2), m.sooner(told));
    }

    private static void rounds(LitNextDoor x, Model m) {
        for (int room = 0; room < m.rooms && m.rooms <= 5; room++) {
            int[] round = m.round(room, 2 * (m.rooms - 1));
            Check.due("round steps", x.round(room, -1), round == null ? -1 : round.length - 1);
            for (int what = 0; what < 12; what++) {
                int due = round == null || what >= round.length ? -1 : round[what];
                Check.due("round room", x.round(room, what), due);
            }
        }
    }

    private static void large(Random draw, int i) {
        StringBuilder text = new StringBuilder();
        int rooms = i % 4 == 3 ? 7 + draw.nextInt(4) : 13 + draw.nextInt(4);
        Model m = Model.drawn(draw, rooms, rooms + draw.nextInt(2 * rooms), text);
        LitNextDoor x = Check.built(text.toString());
        told(x, m, text.toString());
        hung(x, m, draw);
        covers(x, m);
        Check.due("which", x.which(), m.which());
        for (int kind = 0; kind < m.kinds.size() && kind < 1; kind++) {
            int hour = draw.nextInt(24);
            Check.due("bright", x.bright(kind, hour), m.bright(kind, hour));
        }
        int set = draw.nextInt(1 << rooms) | draw.nextInt(1 << rooms);
        Check.due("cost", x.cost(set), m.cost(set));
        int from = draw.nextInt(20);
        int[] told = m.carry(2, from, from + 4);
        for (int what = -1; what < 10; what++) {
            Check.due("carry", x.carry(2, from, from + 4, what), told == null ? -1 : told[1 + what]);
        }
        if (rooms <= 10) {
            int room = draw.nextInt(rooms);
            long[] owed = m.owed(room);
            Check.due("owed", x.owed(room), true);
            Check.due("upper", x.upper(), owed[0]);
            Check.due("lower", x.lower(), owed[1]);
        } else {
            Check.due("owed", x.owed(0), false);
        }
        largeRound(draw, i);
    }

    /** A row of rooms, whose round is plain to see, with some panes across. */
    private static void largeRound(Random draw, int i) {
        StringBuilder text = new StringBuilder();
        int rooms = LARGE_ROUND_ROOMS[i % LARGE_ROUND_ROOMS.length];
        Model m = Model.drawn(draw, rooms, 2 * rooms, text);
        LitNextDoor x = Check.built(text.toString());
        int start = draw.nextInt(rooms);
        int steps = x.round(start, -1);
        if (steps >= 0 && steps <= 7) {
            int[] round = m.round(start, steps);
            Check.due("round steps", round == null ? -1 : round.length - 1, steps);
            for (int what = 0; what <= steps && round != null; what++) {
                Check.due("round room", x.round(start, what), round[what]);
            }
        }
    }

    private static void grids() {
        LitNextDoor x = new LitNextDoor();
        for (int a = 1; a <= 16; a++) {
            for (int b = 1; a * b <= 16; b++) {
                Check.due("grid(" + a + ", " + b + ")", x.grid(a, b), Model.grid(a, b));
            }
        }
    }

    private static void rules(Random draw) {
        LitNextDoor x = new LitNextDoor();
        for (int n = 1; n <= 40; n++) {
            for (int ring = 0; ring < 2; ring++) {
                if (ring == 0 || n >= 3) {
                    int[] look = Model.look(n, ring == 1);
                    for (int what = 0; what < 3; what++) {
                        Check.due("look " + n, x.look(n, ring == 1, what), look[what]);
                    }
                    for (int i = 0; i < 100; i++) {
                        int p = 1 + draw.nextInt(8);
                        int bits = draw.nextInt(1 << p) | draw.nextInt(1 << p);
                        Check.due("rule " + n, x.rule(n, ring == 1, p, bits), Model.rule(n, ring == 1, p, bits));
                    }
                }
            }
        }
    }
}
