import java.util.ArrayList;
import java.util.Arrays;
import java.util.HashMap;
import java.util.List;
import java.util.Map;
import java.util.Random;
import java.util.function.IntPredicate;

/** The document's terms, each worked out as its words say, by going through all there is. */
final class Model {
    int rooms;
    final List<int[]> panes = new ArrayList<>();
    final List<int[]> kinds = new ArrayList<>();
    final List<int[]> wants = new ArrayList<>();
    final List<int[]> holes = new ArrayList<>();
    final int[] burns = new int[16];
    final int[] hates = new int[16];
    int dear = 50;
    int lines;
    final int[] lampKind = new int[16];
    final int[] lampHours = new int[16];

    Model() {
        Arrays.fill(burns, 10);
        Arrays.fill(lampKind, -1);
    }

    int all() {
        return (1 << rooms) - 1;
    }

    boolean leads(int from, int to, List<int[]> through) {
        for (int[] p : through) {
            if (p[0] == from && p[1] == to || p[3] == 1 && p[1] == from && p[0] == to) {
                return true;
            }
        }
        return false;
    }

    int next(int room, List<int[]> through) {
        int set = 0;
        for (int from = 0; from < rooms; from++) {
            if (leads(from, room, through)) {
                set |= 1 << from;
            }
        }
        return set;
    }

    int next(int room) {
        return next(room, panes);
    }

    int light(int room, int[] kindOf) {
        int sum = 0;
        for (int[] p : panes) {
            if (p[1] == room && kindOf[p[0]] >= 0) {
                sum += kinds.get(kindOf[p[0]])[0] * p[2] / 100;
            }
            if (p[3] == 1 && p[0] == room && kindOf[p[1]] >= 0) {
                sum += kinds.get(kindOf[p[1]])[0] * p[2] / 100;
            }
        }
        return sum;
    }

    boolean right(int room, int hour, int[] kindOf) {
        for (int[] w : wants) {
            if (w[0] == room && w[3] <= hour && hour <= w[4]) {
                int light = light(room, kindOf);
                if (light < w[1] || light > w[2]) {
                    return false;
                }
            }
        }
        return true;
    }

    int dark(int hour, int[] kindOf) {
        int set = 0;
        for (int room = 0; room < rooms; room++) {
            if (!right(room, hour, kindOf)) {
                set |= 1 << room;
            }
        }
        return set;
    }

    int[] burningAt(int hour) {
        int[] kindOf = new int[16];
        for (int room = 0; room < 16; room++) {
            kindOf[room] = (lampHours[room] >> hour & 1) == 1 ? lampKind[room] : -1;
        }
        return kindOf;
    }

    int by(int room, int hour) {
        int set = 0;
        int[] kindOf = burningAt(hour);
        for (int from = 0; from < rooms; from++) {
            if (kindOf[from] >= 0 && leads(from, room, panes)) {
                set |= 1 << from;
            }
        }
        return set;
    }

    int judge() {
        for (int hour = 0; hour < 24; hour++) {
            int dark = dark(hour, burningAt(hour));
            if (dark != 0) {
                return 100 * hour + Integer.numberOfTrailingZeros(dark);
            }
        }
        return -1;
    }

    int out(int room, int hour) {
        int[] kindOf = burningAt(hour);
        int now = dark(hour, kindOf);
        kindOf[room] = -1;
        return dark(hour, kindOf) & ~now;
    }

    int spare(int hour) {
        int set = 0;
        int[] kindOf = burningAt(hour);
        for (int room = 0; room < rooms; room++) {
            if (kindOf[room] >= 0 && out(room, hour) == 0) {
                set |= 1 << room;
            }
        }
        return set;
    }

    int angry(int hour) {
        int set = 0;
        for (int room = 0; room < rooms; room++) {
            if ((by(room, hour) & hates[room]) != 0) {
                set |= 1 << room;
            }
        }
        return set;
    }

    int oil() {
        int sum = 0;
        for (int room = 0; room < rooms; room++) {
            for (int hour = 0; hour < 24; hour++) {
                int kind = burningAt(hour)[room];
                sum += kind >= 0 ? kinds.get(kind)[1] : 0;
            }
        }
        return sum;
    }

    boolean lights(int set, int other, List<int[]> through) {
        for (int room = 0; room < rooms; room++) {
            if ((other >> room & 1) == 1 && (next(room, through) & set) == 0) {
                return false;
            }
        }
        return true;
    }

    /** Of all sets for which it holds that with the fewest, of like ones the least. */
    int fewest(int sets, IntPredicate holds) {
        int best = -1;
        for (int set = 0; set < sets; set++) {
            if ((best == -1 || Integer.bitCount(set) < Integer.bitCount(best)) && holds.test(set)) {
                best = set;
            }
        }
        return best;
    }

    private int[] nextRow(List<int[]> through) {
        int[] row = new int[rooms];
        for (int room = 0; room < rooms; room++) {
            row[room] = next(room, through);
        }
        return row;
    }

    private static boolean litAll(int[] next, int set, int times) {
        for (int n : next) {
            if (Integer.bitCount(n & set) < times) {
                return false;
            }
        }
        return true;
    }

    int fewest(List<int[]> through) {
        int[] next = nextRow(through);
        return fewest(1 << rooms, set -> litAll(next, set, 1));
    }

    int best(int what) {
        int[] next = nextRow(panes);
        if (what == 0) {
            return fewest(panes);
        }
        if (what == 1) {
            return fewest(1 << rooms, set -> litAll(next, set, 2));
        }
        if (what == 2) {
            return fewest(1 << rooms, set -> litAll(next, set, 1) && borne(next, set));
        }
        int best = 0;
        for (int set = 0; set < 1 << rooms; set++) {
            if (Integer.bitCount(set) > Integer.bitCount(best) && lone(next, set)) {
                best = set;
            }
        }
        return best;
    }

    private boolean borne(int[] next, int set) {
        for (int room = 0; room < rooms; room++) {
            if ((set & next[room] & hates[room]) != 0) {
                return false;
            }
        }
        return true;
    }

    private boolean lone(int[] next, int set) {
        for (int one = 0; one < rooms; one++) {
            for (int other = 0; other < one; other++) {
                if ((set >> one & set >> other & 1) == 1 && (next[one] & next[other]) != 0) {
                    return false;
                }
            }
        }
        return true;
    }

    int gap() {
        int fewest = best(0);
        return fewest == -1 ? -1 : Integer.bitCount(fewest) - Integer.bitCount(best(3));
    }

    int[] alwaysEver() {
        int fewest = best(0);
        if (fewest == -1) {
            return new int[] {0, 0};
        }
        int[] next = nextRow(panes);
        int always = all();
        int ever = 0;
        for (int set = 0; set < 1 << rooms; set++) {
            if (Integer.bitCount(set) == Integer.bitCount(fewest) && litAll(next, set, 1)) {
                always &= set;
                ever |= set;
            }
        }
        return new int[] {always, ever};
    }

    int barred(int room) {
        int[] next = nextRow(panes);
        int set = fewest(1 << rooms, s -> (s >> room & 1) == 0 && litAll(next, s, 1));
        return set == -1 ? -1 : Integer.bitCount(set);
    }

    int bright(int kind, int hour) {
        return fewest(1 << rooms, set -> {
            int[] kindOf = new int[16];
            for (int room = 0; room < 16; room++) {
                kindOf[room] = (set >> room & 1) == 1 ? kind : -1;
            }
            return dark(hour, kindOf) == 0;
        });
    }

    int day(int kind) {
        int sum = 0;
        for (int hour = 0; hour < 24; hour++) {
            int set = bright(kind, hour);
            if (set == -1) {
                return -1;
            }
            sum += Integer.bitCount(set) * kinds.get(kind)[1];
        }
        return sum;
    }

    /** The oil, how many lamps, and each room's kind; null: there is none. */
    int[] mixed(int hour) {
        int[] best = null;
        int choices = 1;
        for (int room = 0; room < rooms; room++) {
            choices *= kinds.size() + 1;
        }
        for (int choice = 0; choice < choices; choice++) {
            int[] kindOf = new int[16];
            Arrays.fill(kindOf, -1);
            int[] told = new int[2 + rooms];
            int rest = choice;
            for (int room = rooms - 1; room >= 0; room--) {
                int kind = rest % (kinds.size() + 1) - 1;
                rest /= kinds.size() + 1;
                kindOf[room] = kind;
                told[2 + room] = kind;
                told[0] += kind >= 0 ? kinds.get(kind)[1] : 0;
                told[1] += kind >= 0 ? 1 : 0;
            }
            if (dark(hour, kindOf) == 0 && (best == null || Arrays.compare(told, best) < 0)) {
                best = told;
            }
        }
        return best;
    }

    static int grid(int a, int b) {
        Model m = new Model();
        m.rooms = a * b;
        for (int k = 0; k < a * b; k++) {
            for (int l = 0; l < a * b; l++) {
                int columns = Math.abs(k % a - l % a);
                int rows = Math.abs(k / a - l / a);
                if (columns + rows == 1) {
                    m.panes.add(new int[] {k, l, 1, 0});
                }
            }
        }
        return m.best(0);
    }

    int saves(int hole) {
        List<int[]> through = new ArrayList<>(panes);
        int[] h = holes.get(hole);
        through.add(new int[] {h[0], h[1], h[2], h[4]});
        int now = best(0);
        int then = fewest(through);
        if (then == -1) {
            return 0;
        }
        return now == -1 ? 100 : Integer.bitCount(now) - Integer.bitCount(then);
    }

    int which() {
        int best = -1;
        for (int i = 0; i < holes.size(); i++) {
            if (saves(i) > 0 && (best == -1 || saves(i) > saves(best)
                || saves(i) == saves(best) && holes.get(i)[3] < holes.get(best)[3])) {
                best = i;
            }
        }
        return best;
    }

    int[][] walks() {
        int[][] way = new int[rooms][rooms];
        for (int i = 0; i < rooms; i++) {
            for (int j = 0; j < rooms; j++) {
                way[i][j] = i == j ? 0 : leads(i, j, panes) || leads(j, i, panes) ? 1 : 1000;
            }
        }
        for (int k = 0; k < rooms; k++) {
            for (int i = 0; i < rooms; i++) {
                for (int j = 0; j < rooms; j++) {
                    way[i][j] = Math.min(way[i][j], way[i][k] + way[k][j]);
                }
            }
        }
        return way;
    }

    private static final class Way {
        int sum;
        int[] places;
    }

    /** The sum and the places, hour by hour; null: it can't be. */
    int[] carry(int n, int from, int to) {
        int[][] way = walks();
        Map<Integer, Way> memo = new HashMap<>();
        int states = n == 1 ? rooms : rooms * rooms;
        Way best = null;
        for (int state = 0; state < states; state++) {
            Way w = carryFrom(n, state, from, to, way, memo);
            best = w != null && (best == null || less(w, best)) ? w : best;
        }
        if (best == null) {
            return null;
        }
        int[] told = new int[1 + best.places.length];
        told[0] = best.sum;
        System.arraycopy(best.places, 0, told, 1, best.places.length);
        return told;
    }

    private static boolean less(Way one, Way other) {
        return one.sum < other.sum || one.sum == other.sum && Arrays.compare(one.places, other.places) < 0;
    }

    private int[] placesOf(int n, int state) {
        return n == 1 ? new int[] {state} : new int[] {state / rooms, state % rooms};
    }

    private Way carryFrom(int n, int state, int hour, int to, int[][] way, Map<Integer, Way> memo) {
        int key = hour * 1000 + state;
        if (memo.containsKey(key)) {
            return memo.get(key);
        }
        int[] here = placesOf(n, state);
        Way best = null;
        if (lightsWanting(here, hour)) {
            if (hour == to) {
                best = new Way();
                best.places = here;
            } else {
                int states = n == 1 ? rooms : rooms * rooms;
                for (int then = 0; then < states; then++) {
                    Way rest = carryFrom(n, then, hour + 1, to, way, memo);
                    int[] there = placesOf(n, then);
                    int walk = 0;
                    for (int lamp = 0; lamp < n; lamp++) {
                        walk += way[here[lamp]][there[lamp]];
                    }
                    if (rest != null && walk < 1000) {
                        Way w = new Way();
                        w.sum = walk + rest.sum;
                        w.places = Arrays.copyOf(here, n + rest.places.length);
                        System.arraycopy(rest.places, 0, w.places, n, rest.places.length);
                        best = best == null || less(w, best) ? w : best;
                    }
                }
            }
        }
        memo.put(key, best);
        return best;
    }

    private boolean lightsWanting(int[] places, int hour) {
        int set = 0;
        for (int place : places) {
            set |= 1 << place;
        }
        int wanting = 0;
        for (int[] w : wants) {
            if (w[1] > 0 && w[3] <= hour && hour <= w[4]) {
                wanting |= 1 << w[0];
            }
        }
        return lights(set, wanting, panes);
    }

    int cost(int set) {
        int best = Integer.MAX_VALUE;
        for (int lamps = 0; lamps <= set; lamps++) {
            if ((lamps & ~set) == 0) {
                int sum = 0;
                for (int room = 0; room < rooms; room++) {
                    sum += (lamps >> room & 1) == 1 ? burns[room] : 0;
                    sum += (set >> room & 1) == 1 && (next(room) & lamps) == 0 ? dear : 0;
                }
                best = Math.min(best, sum);
            }
        }
        return best;
    }

    int saving(int set) {
        return dear * Integer.bitCount(set) - cost(set);
    }

    /** Upper and lower number, by going through all orders of tenants. */
    long[] owed(int room) {
        long[] sums = new long[2];
        int[] savings = new int[1 << rooms];
        for (int set = 0; set < savings.length; set++) {
            savings[set] = saving(set);
        }
        orders(0, room, savings, sums);
        long common = java.math.BigInteger.valueOf(sums[0]).gcd(java.math.BigInteger.valueOf(sums[1])).longValue();
        return new long[] {sums[0] / common, sums[1] / common};
    }

    private void orders(int ahead, int room, int[] savings, long[] sums) {
        if ((ahead >> room & 1) == 1) {
            // What comes behind the tenant doesn't matter: so many orders go on from here.
            long rest = 1;
            for (int i = 2; i <= rooms - Integer.bitCount(ahead); i++) {
                rest *= i;
            }
            sums[0] += rest * (savings[ahead] - savings[ahead & ~(1 << room)]);
            sums[1] += rest;
            return;
        }
        for (int r = 0; r < rooms; r++) {
            if ((ahead >> r & 1) == 0) {
                orders(ahead | 1 << r, room, savings, sums);
            }
        }
    }

    int sooner(long[] told) {
        for (int set = 1; set < 1 << rooms; set++) {
            long sum = 0;
            for (int room = 0; room < rooms; room++) {
                sum += (set >> room & 1) == 1 ? told[room] : 0;
            }
            if (saving(set) > sum) {
                return set;
            }
        }
        return -1;
    }

    /** The rooms of a round, the first one twice; null: there is none. Longer ones than told aren't looked for. */
    int[] round(int start, int longest) {
        for (int steps = 0; steps <= longest; steps++) {
            int[] path = new int[steps + 1];
            path[0] = start;
            if (roundOn(path, 1)) {
                return path;
            }
        }
        return null;
    }

    private boolean roundOn(int[] path, int at) {
        if (at == path.length) {
            int set = 0;
            for (int room : path) {
                set |= 1 << room;
            }
            return path[at - 1] == path[0] && lights(set, all(), panes);
        }
        for (int room = 0; room < rooms; room++) {
            if (leads(room, path[at - 1], panes) || leads(path[at - 1], room, panes)) {
                path[at] = room;
                if (roundOn(path, at + 1)) {
                    return true;
                }
            }
        }
        return false;
    }

    static int rule(int n, boolean ring, int p, int bits) {
        for (int k = 0; k < n; k++) {
            boolean lit = false;
            for (int l = 0; l < n; l++) {
                boolean beside = Math.abs(k - l) == 1 || ring && Math.abs(k - l) == n - 1;
                lit |= beside && (bits >> l % p & 1) == 1;
            }
            if (!lit) {
                return k;
            }
        }
        return -1;
    }

    static int[] look(int n, boolean ring) {
        int[] best = null;
        for (int p = 1; p <= 8; p++) {
            for (int bits = 0; bits < 1 << p; bits++) {
                int lamps = 0;
                for (int k = 0; k < n; k++) {
                    lamps += bits >> k % p & 1;
                }
                int[] told = {lamps, p, bits};
                if (rule(n, ring, p, bits) == -1 && (best == null || Arrays.compare(told, best) < 0)) {
                    best = told;
                }
            }
        }
        return best == null ? new int[] {-1, -1, -1} : best;
    }

    int[] night(int seed, int fail) {
        int[] told = new int[3];
        int x = seed;
        for (int hour = 0; hour < 24; hour++) {
            int[] kindOf = burningAt(hour);
            for (int room = 0; room < rooms; room++) {
                if (kindOf[room] >= 0) {
                    x = 1103515245 * x + 12345;
                    if ((x >>> 16) % 100 < fail) {
                        kindOf[room] = -1;
                        told[2]++;
                    }
                }
            }
            int dark = Integer.bitCount(dark(hour, kindOf));
            told[0] += dark;
            told[1] += dark > 0 ? 1 : 0;
        }
        return told;
    }

    /** A house by draws, and its text. */
    static Model drawn(Random draw, int rooms, int density, StringBuilder text) {
        Model m = new Model();
        m.rooms = rooms;
        m.line(text, "rooms " + rooms);
        int kinds = draw.nextInt(5);
        for (int i = 0; i < kinds; i++) {
            int[] kind = {draw.nextInt(4) == 0 ? 1 + draw.nextInt(999) : 50 + draw.nextInt(100), draw.nextInt(6)};
            if (m.line(text, "lamp bright " + kind[0] + " oil " + kind[1])) {
                m.kinds.add(kind);
            }
        }
        for (int i = 0; i < density && rooms > 1; i++) {
            m.drawPane(draw, text);
        }
        int wants = draw.nextInt(8);
        for (int i = 0; i < wants; i++) {
            m.drawWant(draw, text);
        }
        for (int i = draw.nextInt(4); i > 0 && rooms > 1; i--) {
            m.drawHole(draw, text);
        }
        for (int i = draw.nextInt(5); i > 0; i--) {
            m.drawTenant(draw, text);
        }
        return m;
    }

    private boolean line(StringBuilder text, String told) {
        if (text.length() + told.length() + 1 > 800) {
            return false;
        }
        text.append(told).append(';');
        lines++;
        return true;
    }

    private int otherThan(Random draw, int room) {
        return (room + 1 + draw.nextInt(rooms - 1)) % rooms;
    }

    void drawPane(Random draw, StringBuilder text) {
        int from = draw.nextInt(rooms);
        int[] p = {from, otherThan(draw, from), 1 + draw.nextInt(100), draw.nextInt(2)};
        if (line(text, "pane " + p[0] + " to " + p[1] + " lets " + p[2] + (p[3] == 1 ? " both" : ""))) {
            panes.add(p);
        }
    }

    private void drawWant(Random draw, StringBuilder text) {
        int least = draw.nextInt(4) == 0 ? 0 : draw.nextInt(90);
        int most = draw.nextInt(2) == 0 ? 99999 : least + draw.nextInt(80);
        int from = draw.nextInt(3) == 0 ? 0 : draw.nextInt(24);
        int to = draw.nextInt(3) == 0 ? 23 : from + draw.nextInt(24 - from);
        int[] w = {draw.nextInt(rooms), least, most, from, to};
        String told = "want " + w[0] + " least " + least + (most == 99999 ? "" : " most " + most)
            + (from == 0 && to == 23 ? "" : " from " + from + " to " + to);
        if (line(text, told)) {
            wants.add(w);
        }
    }

    void drawHole(Random draw, StringBuilder text) {
        int from = draw.nextInt(rooms);
        int[] h = {from, otherThan(draw, from), 1 + draw.nextInt(100), draw.nextInt(5), draw.nextInt(2)};
        String told = "hole " + h[0] + " to " + h[1] + " lets " + h[2] + " costs " + h[3] + (h[4] == 1 ? " both" : "");
        if (line(text, told)) {
            holes.add(h);
        }
    }

    private void drawTenant(Random draw, StringBuilder text) {
        int room = draw.nextInt(rooms);
        int number = draw.nextInt(100);
        int sort = draw.nextInt(3);
        if (sort == 0 && line(text, "burns " + number + " for " + room)) {
            burns[room] = number;
        } else if (sort == 1 && rooms > 1) {
            int other = otherThan(draw, room);
            if (line(text, "hates " + room + " " + other)) {
                hates[room] |= 1 << other;
            }
        } else if (sort == 2 && line(text, "dear " + number)) {
            dear = number;
        }
    }
}
