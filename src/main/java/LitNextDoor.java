import java.util.Arrays;
import java.util.NoSuchElementException;

/** Rooms that are lit only from next door; ../shared/DOC.md says what each call answers. */
public final class LitNextDoor {
    public static final int NONE = -1;

    private static final int TAPE = 800;
    private static final int ROOMS = 16;
    private static final int PANES = 60;
    private static final int KINDS = 4;
    private static final int WANTS = 24;
    private static final int HOLES = 8;
    private static final int HOURS = 24;
    private static final int ALL_HOURS = (1 << HOURS) - 1;
    private static final int UNBOUNDED = 99999;
    private static final int MIXED_ROOMS = 8;
    private static final int OWED_ROOMS = 10;
    private static final int ROUND_ROOMS = 12;
    private static final int LONGEST_ROW = 40;
    private static final int LONGEST_RULE = 8;
    private static final int TOLD_AT_MOST = 9999;
    private static final int IMAGES = 3;
    private static final int SAVED_FROM_NONE = 100;

    private final byte[] tape = new byte[TAPE];
    private int taped = 0;
    private int faultKind = 0;
    private int faultPlace = NONE;
    private House house = new House();
    private final Lamps lamps = new Lamps();
    private final House[] imageHouses = new House[IMAGES];
    private final Lamps[] imageLamps = new Lamps[IMAGES];
    private long upperNumber = 0;
    private long lowerNumber = 0;
    private final Trays trays = new Trays();
    private final int[] sums = new int[ROOMS];
    private final Cover cover = new Cover();
    private final Kindled kindled = new Kindled();
    private final Mixture mixture = new Mixture();
    private final Carrier carrier = new Carrier();
    private final Tenants tenants = new Tenants();
    // Its rows grow fast with rooms, so it is made when a round is asked for, and anew only for more rooms.
    private Rounds rounds = null;

    public LitNextDoor() {
    }

    // ---- the house

    public int feed(int a, int b, int c, int d, int e) {
        if (taped + 20 > TAPE) {
            return NONE;
        }
        putOnTape(a);
        putOnTape(b);
        putOnTape(c);
        putOnTape(d);
        putOnTape(e);
        return taped;
    }

    public int house(int n) throws IllegalArgumentException {
        if (n < 0 || n > taped) {
            throw new IllegalArgumentException("not so many bytes");
        }
        Reader reader = new Reader(tape, n);
        House read = reader.readHouse();
        taped = 0;
        faultKind = reader.fault;
        faultPlace = reader.faultPlace;
        if (faultKind != 0) {
            return -10 - faultKind;
        }
        house = read;
        lamps.takeDown();
        return read.lines;
    }

    public int fault(int what) {
        if (what == 0) {
            return faultKind;
        }
        return what == 1 ? faultPlace : NONE;
    }

    public int pane(int i, int what) throws NoSuchElementException, IllegalArgumentException {
        if (i < 0 || i >= house.paneCount) {
            throw new NoSuchElementException("no such pane");
        }
        checkWhat(what, 0, 3);
        return house.panes[i * House.PANE + what];
    }

    public int kind(int kind, int what) throws NoSuchElementException, IllegalArgumentException {
        checkKind(kind);
        checkWhat(what, 0, 1);
        return house.kinds[kind * House.KIND + what];
    }

    public int next(int room) throws NoSuchElementException {
        checkRoom(room);
        return house.next[room];
    }

    public int hated(int room) throws NoSuchElementException {
        checkRoom(room);
        return house.hates[room];
    }

    public int never() {
        int set = 0;
        for (int room = 0; room < house.rooms; room++) {
            if (house.next[room] == 0) {
                set |= 1 << room;
            }
        }
        return set;
    }

    // ---- lamps

    public int hang(int room, int kind, int hours) throws NoSuchElementException, IllegalArgumentException {
        checkRoom(room);
        if (kind != NONE) {
            checkKind(kind);
        }
        if (!areHours(hours)) {
            throw new IllegalArgumentException("hours beyond 23");
        }
        int had = lamps.kinds[room];
        lamps.put(room, kind, hours);
        return had;
    }

    public int of(int room, int what) throws NoSuchElementException, IllegalArgumentException {
        checkRoom(room);
        checkWhat(what, 0, 2);
        if (what == 0) {
            return lamps.kinds[room];
        }
        return what == 1 ? lamps.hours[room] : house.burns[room];
    }

    public int light(int room, int hour) throws NoSuchElementException, IllegalArgumentException {
        checkRoom(room);
        checkHour(hour);
        house.shineInto(sums, lamps.kinds, lamps.burning(hour));
        return sums[room];
    }

    public int by(int room, int hour) throws NoSuchElementException, IllegalArgumentException {
        checkRoom(room);
        checkHour(hour);
        return house.next[room] & lamps.burning(hour);
    }

    public int dark(int hour) throws IllegalArgumentException {
        checkHour(hour);
        return darkRooms(hour, lamps.burning(hour));
    }

    public int judge() {
        for (int hour = 0; hour < HOURS; hour++) {
            int set = darkRooms(hour, lamps.burning(hour));
            if (set != 0) {
                return 100 * hour + lowest(set);
            }
        }
        return NONE;
    }

    public int out(int room, int hour) throws NoSuchElementException, IllegalArgumentException {
        checkRoom(room);
        checkHour(hour);
        return darkenedBy(1 << room, hour);
    }

    public int spare(int hour) throws IllegalArgumentException {
        checkHour(hour);
        int burning = lamps.burning(hour);
        int set = 0;
        for (int room = 0; room < house.rooms; room++) {
            int lamp = 1 << room;
            if ((burning & lamp) != 0 && darkenedBy(lamp, hour) == 0) {
                set |= lamp;
            }
        }
        return set;
    }

    public int angry(int hour) throws IllegalArgumentException {
        checkHour(hour);
        int burning = lamps.burning(hour);
        int set = 0;
        for (int room = 0; room < house.rooms; room++) {
            if ((burning & house.next[room] & house.hates[room]) != 0) {
                set |= 1 << room;
            }
        }
        return set;
    }

    public int oil() {
        int sum = 0;
        for (int room = 0; room < house.rooms; room++) {
            sum += house.oilOf(lamps.kinds[room]) * Integer.bitCount(lamps.hours[room]);
        }
        return sum;
    }

    public boolean lights(int set, int other) throws IllegalArgumentException {
        checkSet(set);
        checkSet(other);
        return (other & ~house.litBy(set)) == 0;
    }

    // ---- sets

    public int best(int what) throws IllegalArgumentException {
        checkWhat(what, 0, 3);
        int all = house.allRooms();
        if (what == 3) {
            return cover.lone(house.rooms, house.next);
        }
        if (what == 2) {
            cover.lay(house.rooms, house.lit, all & ~house.unbearable());
            return cover.fewest(all, 0);
        }
        cover.lay(house.rooms, house.lit, all);
        return what == 0 ? cover.fewest(all, 0) : cover.fewest(0, all);
    }

    public int gap() {
        int fewest = fewestOf(house.allRooms());
        if (fewest == NONE) {
            return NONE;
        }
        int lone = cover.lone(house.rooms, house.next);
        return Integer.bitCount(fewest) - Integer.bitCount(lone);
    }

    public int bright(int kind, int hour) throws NoSuchElementException, IllegalArgumentException {
        checkKind(kind);
        checkHour(hour);
        return kindled.fewest(house, kind, hour);
    }

    public int always() {
        int all = house.allRooms();
        int fewest = fewestOf(all);
        if (fewest == NONE) {
            return 0;
        }
        int set = 0;
        for (int room = 0; room < house.rooms; room++) {
            cover.lay(house.rooms, house.lit, all & ~(1 << room));
            if (!cover.suffice(all, Integer.bitCount(fewest))) {
                set |= 1 << room;
            }
        }
        return set;
    }

    public int ever() {
        int all = house.allRooms();
        int fewest = fewestOf(all);
        if (fewest == NONE) {
            return 0;
        }
        // With a room some of the fewest go, if one fewer does for what that room doesn't light.
        int set = 0;
        for (int room = 0; room < house.rooms; room++) {
            if (cover.suffice(all & ~house.lit[room], Integer.bitCount(fewest) - 1)) {
                set |= 1 << room;
            }
        }
        return set;
    }

    public int barred(int room) throws NoSuchElementException {
        checkRoom(room);
        int fewest = fewestOf(house.allRooms() & ~(1 << room));
        return fewest == NONE ? NONE : Integer.bitCount(fewest);
    }

    public int day(int kind) throws NoSuchElementException {
        checkKind(kind);
        int many = kindled.lampsOfDay(house, kind);
        return many == NONE ? NONE : many * house.oilOf(kind);
    }

    public int mixed(int hour, int what) throws IllegalArgumentException {
        checkHour(hour);
        if (house.rooms > MIXED_ROOMS) {
            throw new IllegalArgumentException("more than 8 rooms");
        }
        checkWhat(what, -2, house.rooms - 1);
        if (!mixture.find(house, hour)) {
            return NONE;
        }
        if (what == -2) {
            return mixture.bestLamps;
        }
        return what == NONE ? mixture.bestOil : mixture.bestKinds[what];
    }

    public int grid(int a, int b) throws IllegalArgumentException {
        if (a < 1 || b < 1 || a > ROOMS || b > ROOMS || a * b > ROOMS) {
            throw new IllegalArgumentException("no such grid");
        }
        int[] beside = new int[ROOMS];
        for (int k = 0; k < a * b; k++) {
            int column = k % a;
            beside[k] = (column > 0 ? 1 << (k - 1) : 0) | (column < a - 1 ? 1 << (k + 1) : 0)
                | (k >= a ? 1 << (k - a) : 0) | (k + a < a * b ? 1 << (k + a) : 0);
        }
        int all = (1 << (a * b)) - 1;
        cover.lay(a * b, beside, all);
        return cover.fewest(all, 0);
    }

    public int hole(int i, int what) throws NoSuchElementException, IllegalArgumentException {
        if (i < 0 || i >= house.holeCount) {
            throw new NoSuchElementException("no such hole");
        }
        checkWhat(what, 0, 4);
        if (what == 4) {
            return savesByHole(i, fewestOf(house.allRooms()));
        }
        return house.holes[i * House.HOLE + what];
    }

    public int which() {
        int fewest = fewestOf(house.allRooms());
        int most = 0;
        int found = NONE;
        for (int i = 0; i < house.holeCount; i++) {
            int saves = savesByHole(i, fewest);
            boolean cheaper = found != NONE && saves == most && house.holeCosts(i) < house.holeCosts(found);
            if (saves > most || cheaper) {
                most = saves;
                found = i;
            }
        }
        return found;
    }

    // ---- carried, owed

    public int walk(int one, int other) throws NoSuchElementException {
        checkRoom(one);
        checkRoom(other);
        return house.walks[one * ROOMS + other];
    }

    public int carry(int n, int from, int to, int what) throws IllegalArgumentException {
        if (n < 1 || n > 2) {
            throw new IllegalArgumentException("one lamp or two");
        }
        checkHour(from);
        checkHour(to);
        if (to < from) {
            throw new IllegalArgumentException("the second hour is ahead of the first");
        }
        checkWhat(what, NONE, n * (to - from + 1) - 1);
        int sum = carrier.plan(house, n, from, to);
        if (sum == NONE || what == NONE) {
            return sum;
        }
        return carrier.placeOf(what % n, from + what / n);
    }

    public int cost(int set) throws IllegalArgumentException {
        checkSet(set);
        return house.dear * Integer.bitCount(set) - tenants.savingOf(house, set);
    }

    public boolean owed(int room) throws NoSuchElementException {
        checkRoom(room);
        if (house.rooms > OWED_ROOMS) {
            upperNumber = 0;
            lowerNumber = 0;
            return false;
        }
        long sum = tenants.owedOverOrders(house, room);
        long orders = factorial(house.rooms);
        long common = commonDivisor(sum, orders);
        upperNumber = common > 0 ? sum / common : sum;
        lowerNumber = common > 0 ? orders / common : orders;
        return true;
    }

    public long upper() {
        return upperNumber;
    }

    public long lower() {
        return lowerNumber;
    }

    public int sooner(int tray)
        throws NoSuchElementException, IllegalStateException, IndexOutOfBoundsException, IllegalArgumentException {
        checkTrayThere(tray);
        if (trays.sizes[tray] < house.rooms) {
            throw new IndexOutOfBoundsException("fewer numbers than rooms");
        }
        if (house.rooms > OWED_ROOMS) {
            throw new IllegalArgumentException("more than 10 rooms");
        }
        for (int room = 0; room < house.rooms; room++) {
            long told = trays.numberAt(tray, room);
            if (told < -TOLD_AT_MOST || told > TOLD_AT_MOST) {
                throw new IllegalArgumentException("too large a number");
            }
        }
        return tenants.firstWronged(house, trays, tray);
    }

    // ---- rounds, rules, nights

    public int round(int room, int what) throws NoSuchElementException, IllegalArgumentException {
        checkRoom(room);
        if (house.rooms > ROUND_ROOMS) {
            throw new IllegalArgumentException("more than 12 rooms");
        }
        if (what < NONE) {
            throw new IllegalArgumentException("no such what");
        }
        if (rounds == null || rounds.rooms < house.rooms) {
            rounds = new Rounds(house.rooms);
        }
        int steps = rounds.stepsFrom(house, room);
        if (what == NONE) {
            return steps;
        }
        return what <= steps ? rounds.path[what] : NONE;
    }

    public int rule(int n, boolean ring, int p, int bits) throws IllegalArgumentException {
        checkRow(n, ring);
        if (p < 1 || p > LONGEST_RULE || bits < 0 || bits >= 1 << p) {
            throw new IllegalArgumentException("no such rule");
        }
        long unlit = unlitBy(lampsByRule(n, p, bits), n, ring);
        return unlit == 0 ? NONE : Long.bitCount((unlit & -unlit) - 1);
    }

    public int look(int n, boolean ring, int what) throws IllegalArgumentException {
        checkRow(n, ring);
        checkWhat(what, 0, 2);
        int fewest = n + 1;
        int bestP = NONE;
        int bestBits = NONE;
        for (int p = 1; p <= LONGEST_RULE; p++) {
            for (int bits = 0; bits < 1 << p; bits++) {
                long rooms = lampsByRule(n, p, bits);
                if (Long.bitCount(rooms) < fewest && unlitBy(rooms, n, ring) == 0) {
                    fewest = Long.bitCount(rooms);
                    bestP = p;
                    bestBits = bits;
                }
            }
        }
        if (what == 0) {
            return bestP == NONE ? NONE : fewest;
        }
        return what == 1 ? bestP : bestBits;
    }

    public int night(int seed, int fail, int what) throws IllegalArgumentException {
        if (fail < 0 || fail > 100) {
            throw new IllegalArgumentException("no such fail");
        }
        checkWhat(what, 0, 2);
        int x = seed;
        int roomsDark = 0;
        int hoursDark = 0;
        int lampsOut = 0;
        for (int hour = 0; hour < HOURS; hour++) {
            int burning = lamps.burning(hour);
            int left = burning;
            for (int room = 0; room < house.rooms; room++) {
                if ((burning >> room & 1) != 0) {
                    x = 1103515245 * x + 12345;
                    if ((x >>> 16) % 100 < fail) {
                        left &= ~(1 << room);
                        lampsOut++;
                    }
                }
            }
            int set = darkRooms(hour, left);
            roomsDark += Integer.bitCount(set);
            hoursDark += set != 0 ? 1 : 0;
        }
        if (what == 0) {
            return roomsDark;
        }
        return what == 1 ? hoursDark : lampsOut;
    }

    // ---- trays, images

    public void tray(int tray, int sort, int many) throws NoSuchElementException, IllegalArgumentException {
        checkTray(tray);
        if (sort < 0 || sort > 3 || many < 0 || many > Trays.NUMBERS) {
            throw new IllegalArgumentException("no such row");
        }
        trays.lay(tray, sort, many);
    }

    public long write(int tray, int place, long v)
        throws NoSuchElementException, IllegalStateException, IndexOutOfBoundsException {
        checkTrayThere(tray);
        if (place < 0 || place >= trays.sizes[tray]) {
            throw new IndexOutOfBoundsException("no such place");
        }
        return trays.put(tray, place, v);
    }

    public int pour(int tray)
        throws NoSuchElementException, IllegalStateException, IndexOutOfBoundsException, IllegalArgumentException {
        checkTrayThere(tray);
        int size = trays.sizes[tray];
        if (size % 2 != 0) {
            throw new IndexOutOfBoundsException("it ends within two");
        }
        if (size / 2 > house.rooms) {
            throw new IllegalArgumentException("more lamps than rooms");
        }
        for (int room = 0; room < size / 2; room++) {
            long kind = trays.numberAt(tray, 2 * room);
            if (kind < NONE || kind >= house.kindCount || !areHours(trays.numberAt(tray, 2 * room + 1))) {
                throw new IllegalArgumentException("no such lamp");
            }
        }
        for (int room = 0; room < size / 2; room++) {
            lamps.put(room, (int) trays.numberAt(tray, 2 * room), (int) trays.numberAt(tray, 2 * room + 1));
        }
        return size / 2;
    }

    public void image(int i) throws NoSuchElementException {
        checkImage(i);
        Lamps kept = imageLamps[i];
        if (kept == null) {
            kept = new Lamps();
            imageLamps[i] = kept;
        }
        kept.copyFrom(lamps);
        imageHouses[i] = house;
    }

    public void restore(int i) throws NoSuchElementException, IllegalStateException {
        checkImage(i);
        House keptHouse = imageHouses[i];
        Lamps keptLamps = imageLamps[i];
        if (keptHouse == null || keptLamps == null) {
            throw new IllegalStateException("no image was made");
        }
        house = keptHouse;
        lamps.copyFrom(keptLamps);
    }

    public int count(int what) {
        switch (what) {
            case 0: return house.lines;
            case 1: return house.rooms;
            case 2: return house.paneCount;
            case 3: return house.kindCount;
            case 4: return house.wantCount;
            case 5: return house.holeCount;
            case 6: return house.dear;
            case 7: return lamps.hanging();
            case 8: return taped;
            default: return NONE;
        }
    }

    // ---- what calls are checked for

    private void checkRoom(int room) {
        if (room < 0 || room >= house.rooms) {
            throw new NoSuchElementException("no such room");
        }
    }

    private void checkKind(int kind) {
        if (kind < 0 || kind >= house.kindCount) {
            throw new NoSuchElementException("no such kind");
        }
    }

    private static void checkHour(int hour) {
        if (hour < 0 || hour >= HOURS) {
            throw new IllegalArgumentException("no such hour");
        }
    }

    private static void checkWhat(int what, int first, int last) {
        if (what < first || what > last) {
            throw new IllegalArgumentException("no such what");
        }
    }

    private void checkSet(int set) {
        if ((set & ~house.allRooms()) != 0) {
            throw new IllegalArgumentException("a set with others");
        }
    }

    private static void checkRow(int n, boolean ring) {
        if (n < (ring ? 3 : 1) || n > LONGEST_ROW) {
            throw new IllegalArgumentException("no such row or ring");
        }
    }

    private static void checkTray(int tray) {
        if (tray < 0 || tray >= Trays.TRAYS) {
            throw new NoSuchElementException("no such tray");
        }
    }

    private void checkTrayThere(int tray) {
        checkTray(tray);
        if (trays.sizes[tray] == NONE) {
            throw new IllegalStateException("the tray is missing");
        }
    }

    private static void checkImage(int i) {
        if (i < 0 || i >= IMAGES) {
            throw new NoSuchElementException("no such image");
        }
    }

    private static boolean areHours(long hours) {
        return hours >= 0 && hours <= ALL_HOURS;
    }

    // ---- what several calls use

    private void putOnTape(int four) {
        for (int shift = 24; shift >= 0; shift -= 8) {
            if (taped < TAPE) {
                tape[taped] = (byte) (four >> shift);
                taped++;
            }
        }
    }

    private int darkRooms(int hour, int burning) {
        house.shineInto(sums, lamps.kinds, burning);
        return house.notRight(hour, sums);
    }

    private int darkenedBy(int lamp, int hour) {
        int burning = lamps.burning(hour);
        if ((burning & lamp) == 0) {
            return 0;
        }
        return darkRooms(hour, burning & ~lamp) & ~darkRooms(hour, burning);
    }

    private int fewestOf(int allowed) {
        cover.lay(house.rooms, house.lit, allowed);
        return cover.fewest(house.allRooms(), 0);
    }

    private int savesByHole(int i, int fewestNow) {
        cover.lay(house.rooms, house.litWithHole(i), house.allRooms());
        int fewestThen = cover.fewest(house.allRooms(), 0);
        if (fewestThen == NONE) {
            return 0;
        }
        if (fewestNow == NONE) {
            return SAVED_FROM_NONE;
        }
        return Integer.bitCount(fewestNow) - Integer.bitCount(fewestThen);
    }

    private static long lampsByRule(int n, int p, int bits) {
        long rooms = 0;
        if (p > 0) {
            for (int k = 0; k < n; k += p) {
                rooms |= (long) bits << k;
            }
        }
        return rooms & ((1L << n) - 1);
    }

    private static long unlitBy(long rooms, int n, boolean ring) {
        long lit = rooms << 1 | rooms >>> 1;
        if (ring) {
            lit |= rooms >>> (n - 1) | (rooms & 1) << (n - 1);
        }
        return ~lit & ((1L << n) - 1);
    }

    private static int lowest(int set) {
        return Integer.bitCount((set & -set) - 1);
    }

    private static long factorial(int n) {
        long product = 1;
        for (int i = 2; i <= n; i++) {
            product *= i;
        }
        return product;
    }

    private static long commonDivisor(long one, long other) {
        long a = one;
        long b = other;
        // Euclid's way takes fewer than 100 steps for any two longs.
        for (int i = 0; i < 100 && b != 0; i++) {
            long rest = a % b;
            a = b;
            b = rest;
        }
        return a;
    }

    /** What a text tells and what follows from its panes; as nothing of it changes once it is read, images share it. */
    private static final class House {
        static final int PANE = 4;
        static final int KIND = 2;
        static final int WANT = 5;
        static final int HOLE = 5;

        int lines = 0;
        int rooms = 0;
        int dear = 50;
        int paneCount = 0;
        int kindCount = 0;
        int wantCount = 0;
        int holeCount = 0;
        // from, to, hundredths, both ways
        final int[] panes = new int[PANES * PANE];
        // bright, oil
        final int[] kinds = new int[KINDS * KIND];
        // room, least, most, from, to
        final int[] wants = new int[WANTS * WANT];
        // from, to, hundredths, costs, both ways
        final int[] holes = new int[HOLES * HOLE];
        final int[] burns = new int[ROOMS];
        final int[] hates = new int[ROOMS];
        // the rooms from which a pane leads into a room, and those into which one leads from it
        final int[] next = new int[ROOMS];
        final int[] lit = new int[ROOMS];
        final int[] walks = new int[ROOMS * ROOMS];

        House() {
            Arrays.fill(burns, 10);
            Arrays.fill(walks, NONE);
        }

        int allRooms() {
            return (1 << rooms) - 1;
        }

        int oilOf(int kind) {
            return kind >= 0 && kind < kindCount ? kinds[kind * KIND + 1] : 0;
        }

        int brightOf(int kind) {
            return kind >= 0 && kind < kindCount ? kinds[kind * KIND] : 0;
        }

        int holeCosts(int i) {
            return i >= 0 && i < holeCount ? holes[i * HOLE + 3] : 0;
        }

        void findNext() {
            for (int i = 0; i < paneCount; i++) {
                join(panes[i * PANE], panes[i * PANE + 1]);
                if (panes[i * PANE + 3] == 1) {
                    join(panes[i * PANE + 1], panes[i * PANE]);
                }
            }
        }

        private void join(int from, int to) {
            lit[from] |= 1 << to;
            next[to] |= 1 << from;
        }

        void findWalks() {
            for (int start = 0; start < rooms; start++) {
                int seen = 1 << start;
                int edge = seen;
                for (int steps = 0; steps < rooms && edge != 0; steps++) {
                    int beside = 0;
                    for (int room = 0; room < rooms; room++) {
                        if ((edge >> room & 1) != 0) {
                            walks[start * ROOMS + room] = steps;
                            beside |= next[room] | lit[room];
                        }
                    }
                    edge = beside & ~seen;
                    seen |= edge;
                }
            }
        }

        int litBy(int set) {
            int all = 0;
            for (int room = 0; room < rooms; room++) {
                if ((set >> room & 1) != 0) {
                    all |= lit[room];
                }
            }
            return all;
        }

        /** Rooms that some room can't bear and that are next to it. */
        int unbearable() {
            int set = 0;
            for (int room = 0; room < rooms; room++) {
                set |= hates[room] & next[room];
            }
            return set;
        }

        int[] litWithHole(int i) {
            int[] then = lit.clone();
            int from = holes[i * HOLE];
            int to = holes[i * HOLE + 1];
            then[from] |= 1 << to;
            if (holes[i * HOLE + 4] == 1) {
                then[to] |= 1 << from;
            }
            return then;
        }

        /** The light of each room, if in the burning rooms lamps of these kinds burn. */
        void shineInto(int[] sums, int[] kindsOfRooms, int burning) {
            Arrays.fill(sums, 0);
            for (int i = 0; i < paneCount; i++) {
                int from = panes[i * PANE];
                int to = panes[i * PANE + 1];
                int lets = panes[i * PANE + 2];
                if ((burning >> from & 1) != 0) {
                    sums[to] += brightOf(kindsOfRooms[from]) * lets / 100;
                }
                if (panes[i * PANE + 3] == 1 && (burning >> to & 1) != 0) {
                    sums[from] += brightOf(kindsOfRooms[to]) * lets / 100;
                }
            }
        }

        boolean wantedAt(int want, int hour) {
            return wants[want * WANT + 3] <= hour && hour <= wants[want * WANT + 4];
        }

        int wantsAt(int hour) {
            int set = 0;
            for (int i = 0; i < wantCount; i++) {
                if (wantedAt(i, hour)) {
                    set |= 1 << i;
                }
            }
            return set;
        }

        int notRight(int hour, int[] sums) {
            int set = 0;
            for (int i = 0; i < wantCount; i++) {
                int room = wants[i * WANT];
                boolean suits = sums[room] >= wants[i * WANT + 1] && sums[room] <= wants[i * WANT + 2];
                if (!suits && wantedAt(i, hour)) {
                    set |= 1 << room;
                }
            }
            return set;
        }

        /** Rooms that have a want of the hour with least above 0. */
        int needy(int hour) {
            int set = 0;
            for (int i = 0; i < wantCount; i++) {
                if (wants[i * WANT + 1] > 0 && wantedAt(i, hour)) {
                    set |= 1 << wants[i * WANT];
                }
            }
            return set;
        }

        /** The light that a lamp of a kind in each room gives to each room, row by row. */
        void shineOf(int kind, int[] shine, int first) {
            for (int i = 0; i < paneCount; i++) {
                int from = panes[i * PANE];
                int to = panes[i * PANE + 1];
                int light = brightOf(kind) * panes[i * PANE + 2] / 100;
                shine[first + from * ROOMS + to] += light;
                if (panes[i * PANE + 3] == 1) {
                    shine[first + to * ROOMS + from] += light;
                }
            }
        }
    }

    /** Reads a house from a text, token by token up to the first fault. */
    private static final class Reader {
        // what the token at hand is
        private static final int END = 0;
        private static final int WORD = 1;
        private static final int NUMBER = 2;
        private static final int SIGN = 3;
        private static final int BAD = 4;
        private static final int DIGITS = 5;

        int fault = 0;
        int faultPlace = NONE;
        private final byte[] text;
        private final int length;
        private int sort = END;
        private int place = 0;
        private int end = 0;
        private int value = 0;
        private final House house = new House();
        // the numbers of the line that is read
        private final int[] told = new int[5];
        private int toldCount = 0;

        Reader(byte[] text, int length) {
            this.text = text;
            this.length = Math.min(length, text.length);
        }

        House readHouse() {
            advance();
            for (int i = 0; i < TAPE && fault == 0 && sort != END; i++) {
                toldCount = 0;
                if (readLine() && passSign()) {
                    house.lines++;
                }
            }
            if (fault == 0) {
                house.findNext();
                house.findWalks();
            }
            return house;
        }

        private boolean readLine() {
            if (isWord("rooms")) {
                return readRooms();
            }
            if (isWord("pane")) {
                return readPane();
            }
            if (isWord("lamp")) {
                return readLamp();
            }
            if (isWord("want")) {
                return readWant();
            }
            if (isWord("hole")) {
                return readHole();
            }
            if (isWord("burns")) {
                return readBurns();
            }
            if (isWord("hates")) {
                return readHates();
            }
            return isWord("dear") ? readDear() : refuse(2);
        }

        private boolean readRooms() {
            if (house.rooms > 0) {
                return refuse(4);
            }
            if (!pass("rooms") || !number(1, ROOMS)) {
                return false;
            }
            house.rooms = told[0];
            return true;
        }

        private boolean readPane() {
            if (!mayBegin(house.paneCount < PANES) || !pass("pane") || !passage()) {
                return false;
            }
            tell(passIf("both") ? 1 : 0);
            keep(house.panes, house.paneCount * House.PANE, House.PANE);
            house.paneCount++;
            return true;
        }

        private boolean readLamp() {
            if (house.kindCount >= KINDS) {
                return refuse(4);
            }
            if (!pass("lamp") || !pass("bright") || !number(1, 999) || !pass("oil") || !number(0, 99)) {
                return false;
            }
            keep(house.kinds, house.kindCount * House.KIND, House.KIND);
            house.kindCount++;
            return true;
        }

        private boolean readWant() {
            if (!mayBegin(house.wantCount < WANTS) || !pass("want")
                || !number(0, house.rooms - 1) || !pass("least") || !number(0, 9999)) {
                return false;
            }
            if (!passIf("most")) {
                tell(UNBOUNDED);
            } else if (!number(told[1], 9999)) {
                return false;
            }
            if (!passIf("from")) {
                tell(0);
                tell(HOURS - 1);
            } else if (!number(0, HOURS - 1) || !pass("to") || !number(told[3], HOURS - 1)) {
                return false;
            }
            keep(house.wants, house.wantCount * House.WANT, House.WANT);
            house.wantCount++;
            return true;
        }

        private boolean readHole() {
            if (!mayBegin(house.holeCount < HOLES) || !pass("hole") || !passage()
                || !pass("costs") || !number(0, 99)) {
                return false;
            }
            tell(passIf("both") ? 1 : 0);
            keep(house.holes, house.holeCount * House.HOLE, House.HOLE);
            house.holeCount++;
            return true;
        }

        private boolean readBurns() {
            if (!mayBegin(true) || !pass("burns") || !number(0, 99) || !pass("for") || !number(0, house.rooms - 1)) {
                return false;
            }
            house.burns[told[1]] = told[0];
            return true;
        }

        private boolean readHates() {
            int last = house.rooms - 1;
            if (!mayBegin(true) || !pass("hates") || !number(0, last) || !differs() || !number(0, last)) {
                return false;
            }
            house.hates[told[0]] |= 1 << told[1];
            return true;
        }

        private boolean readDear() {
            if (!pass("dear") || !number(0, 999)) {
                return false;
            }
            house.dear = told[0];
            return true;
        }

        /** May a line that tells rooms begin here, and is there place for one more of its sort? */
        private boolean mayBegin(boolean place) {
            if (house.rooms == 0) {
                return refuse(2);
            }
            return place || refuse(4);
        }

        private boolean passage() {
            int last = house.rooms - 1;
            return number(0, last) && pass("to") && differs() && number(0, last) && pass("lets") && number(1, 100);
        }

        /** A number that comes next must not be the first one of the line. */
        private boolean differs() {
            return sort != NUMBER || value != told[0] || refuse(3);
        }

        private boolean number(int low, int high) {
            if (sort != NUMBER) {
                return refuse(2);
            }
            if (value < low || value > high) {
                return refuse(3);
            }
            tell(value);
            advance();
            return true;
        }

        private boolean pass(String word) {
            if (!isWord(word)) {
                return refuse(2);
            }
            advance();
            return true;
        }

        private boolean passIf(String word) {
            if (!isWord(word)) {
                return false;
            }
            advance();
            return true;
        }

        private boolean passSign() {
            if (sort != SIGN) {
                return refuse(2);
            }
            advance();
            return true;
        }

        /** The fault is of the token at hand; what is no token at all is that first. */
        private boolean refuse(int kind) {
            fault = sort == BAD ? 1 : kind;
            faultPlace = place;
            return false;
        }

        private void tell(int number) {
            if (toldCount < told.length) {
                told[toldCount] = number;
                toldCount++;
            }
        }

        private void keep(int[] row, int first, int many) {
            System.arraycopy(told, 0, row, first, many);
        }

        private void advance() {
            while (end < length && (text[end] == 10 || text[end] == 32)) {
                end++;
            }
            place = end;
            value = 0;
            while (end < length && text[end] >= 'a' && text[end] <= 'z') {
                sort = WORD;
                end++;
            }
            if (end > place) {
                return;
            }
            while (end < length && text[end] >= '0' && text[end] <= '9') {
                // With more digits it is no number, so that its value doesn't matter.
                sort = end - place < DIGITS ? NUMBER : BAD;
                value = end - place < DIGITS ? value * 10 + (text[end] - '0') : 0;
                end++;
            }
            if (end > place) {
                return;
            }
            sort = END;
            if (end < length) {
                sort = text[end] == ';' ? SIGN : BAD;
                end++;
            }
        }

        private boolean isWord(String word) {
            if (sort != WORD || end - place != word.length()) {
                return false;
            }
            for (int i = 0; i < word.length(); i++) {
                if (text[place + i] != word.charAt(i)) {
                    return false;
                }
            }
            return true;
        }
    }

    /** The lamp of each room: its kind (or none) and the hours in which it burns. */
    private static final class Lamps {
        final int[] kinds = new int[ROOMS];
        final int[] hours = new int[ROOMS];

        Lamps() {
            Arrays.fill(kinds, NONE);
        }

        void takeDown() {
            Arrays.fill(kinds, NONE);
            Arrays.fill(hours, 0);
        }

        void put(int room, int kind, int when) {
            kinds[room] = kind;
            hours[room] = kind == NONE ? 0 : when;
        }

        int burning(int hour) {
            int set = 0;
            for (int room = 0; room < ROOMS; room++) {
                set |= (hours[room] >> hour & 1) << room;
            }
            return set;
        }

        int hanging() {
            int many = 0;
            for (int room = 0; room < ROOMS; room++) {
                many += kinds[room] == NONE ? 0 : 1;
            }
            return many;
        }

        void copyFrom(Lamps other) {
            System.arraycopy(other.kinds, 0, kinds, 0, ROOMS);
            System.arraycopy(other.hours, 0, hours, 0, ROOMS);
        }
    }

    /** Rows of numbers, each cut to so many bits. */
    private static final class Trays {
        static final int TRAYS = 4;
        static final int NUMBERS = 40;

        final long[] numbers = new long[TRAYS * NUMBERS];
        // none while a tray is missing
        final int[] sizes = new int[TRAYS];
        final int[] sorts = new int[TRAYS];

        Trays() {
            Arrays.fill(sizes, NONE);
        }

        void lay(int tray, int sort, int many) {
            sizes[tray] = many;
            sorts[tray] = sort;
            for (int i = 0; i < NUMBERS; i++) {
                numbers[tray * NUMBERS + i] = 0;
            }
        }

        long put(int tray, int place, long v) {
            long cut = cutTo(sorts[tray], v);
            numbers[tray * NUMBERS + place] = cut;
            return cut;
        }

        long numberAt(int tray, int place) {
            return numbers[tray * NUMBERS + place];
        }

        private static long cutTo(int sort, long v) {
            switch (sort) {
                case 0: return (byte) v;
                case 1: return (short) v;
                case 2: return (int) v;
                default: return v;
            }
        }
    }

    /**
     * The fewest rooms that light others. Rooms are decided on from the highest down, first without each and
     * then with it, and for one more room at a time: so the first set found is of the fewest the least as bits.
     */
    private static final class Cover {
        private int rooms = 0;
        // what each room lights; nothing, if it may not be taken
        private final int[] gives = new int[ROOMS];
        // of the first i rooms: what they light once and twice, and how many at most one of them
        private final int[] once = new int[ROOMS + 1];
        private final int[] twice = new int[ROOMS + 1];
        private final int[] widest = new int[ROOMS + 1];
        // rooms that can't both be in a lone set
        private final int[] clashes = new int[ROOMS];

        void lay(int many, int[] lit, int allowed) {
            rooms = many;
            for (int i = 0; i < many; i++) {
                int gift = (allowed >> i & 1) != 0 ? lit[i] : 0;
                gives[i] = gift;
                twice[i + 1] = twice[i] | once[i] & gift;
                once[i + 1] = once[i] | gift;
                widest[i + 1] = Math.max(widest[i], Integer.bitCount(gift));
            }
        }

        /** The fewest rooms that light those of the first set, and those of the second (of others) by two. */
        int fewest(int one, int two) {
            if (((one | two) & ~once[rooms]) != 0 || (two & ~twice[rooms]) != 0) {
                return NONE;
            }
            for (int many = 0; many <= rooms; many++) {
                int set = seek(this, rooms, one, two, many);
                if (set != NONE) {
                    return set;
                }
            }
            return NONE;
        }

        boolean suffice(int one, int many) {
            return seek(this, rooms, one, 0, many) != NONE;
        }

        private static int seek(Cover c, int i, int one, int two, int left) {
            if ((one | two) == 0) {
                return 0;
            }
            if (i <= 0 || ((one | two) & ~c.once[i]) != 0 || (two & ~c.twice[i]) != 0
                || Integer.bitCount(one) + 2 * Integer.bitCount(two) > left * c.widest[i]) {
                return NONE;
            }
            int set = seek(c, i - 1, one, two, left);
            int gift = c.gives[i - 1];
            if (set != NONE || (gift & (one | two)) == 0) {
                return set;
            }
            set = seek(c, i - 1, one & ~gift | two & gift, two & ~gift, left - 1);
            return set == NONE ? NONE : set | 1 << (i - 1);
        }

        /** The most rooms to no two of which the same room is next, of like sets the least as bits. */
        int lone(int many, int[] next) {
            for (int i = 0; i < many; i++) {
                clashes[i] = 0;
                for (int j = 0; j < many; j++) {
                    if (j != i && (next[i] & next[j]) != 0) {
                        clashes[i] |= 1 << j;
                    }
                }
            }
            int set = 0;
            for (int wanted = 1; wanted <= many; wanted++) {
                int larger = seekLone(this, many, (1 << many) - 1, wanted);
                if (larger == NONE) {
                    return set;
                }
                set = larger;
            }
            return set;
        }

        private static int seekLone(Cover c, int i, int free, int left) {
            if (left == 0) {
                return 0;
            }
            if (i <= 0 || Integer.bitCount(free & ((1 << i) - 1)) < left) {
                return NONE;
            }
            int set = seekLone(c, i - 1, free, left);
            if (set != NONE || (free >> (i - 1) & 1) == 0) {
                return set;
            }
            set = seekLone(c, i - 1, free & ~c.clashes[i - 1], left - 1);
            return set == NONE ? NONE : set | 1 << (i - 1);
        }
    }

    /** The light of rooms in an hour against what they want and bear then; a row of light has a place for each room. */
    private static final class Balance {
        private final int[] least = new int[ROOMS];
        private final int[] most = new int[ROOMS];
        private final int[] sums = new int[ROOMS];
        // the rooms that have wants; the light of others doesn't matter
        private final int[] watched = new int[ROOMS];
        private int watchedCount = 0;

        /** All is dark at first: may all wants of the hour be met together? */
        boolean begin(House house, int hour) {
            Arrays.fill(least, 0);
            Arrays.fill(most, UNBOUNDED);
            Arrays.fill(sums, 0);
            boolean may = true;
            for (int i = 0; i < house.wantCount; i++) {
                if (house.wantedAt(i, hour)) {
                    int room = house.wants[i * House.WANT];
                    least[room] = Math.max(least[room], house.wants[i * House.WANT + 1]);
                    most[room] = Math.min(most[room], house.wants[i * House.WANT + 2]);
                    may = may && least[room] <= most[room];
                }
            }
            watch();
            return may;
        }

        private void watch() {
            watchedCount = 0;
            for (int room = 0; room < ROOMS; room++) {
                if (least[room] > 0 || most[room] < UNBOUNDED) {
                    watched[watchedCount] = room;
                    watchedCount++;
                }
            }
        }

        int lacking() {
            int set = 0;
            for (int i = 0; i < watchedCount; i++) {
                int room = watched[i];
                if (sums[room] < least[room]) {
                    set |= 1 << room;
                }
            }
            return set;
        }

        /** Would the rooms of a set have enough with a row of light more? */
        boolean enoughWith(int[] rows, int first, int set) {
            for (int i = 0; i < watchedCount; i++) {
                int room = watched[i];
                if ((set >> room & 1) != 0 && sums[room] + rows[first + room] < least[room]) {
                    return false;
                }
            }
            return true;
        }

        boolean isBearable() {
            for (int i = 0; i < watchedCount; i++) {
                if (sums[watched[i]] > most[watched[i]]) {
                    return false;
                }
            }
            return true;
        }

        void add(int[] rows, int first, int times) {
            for (int i = 0; i < watchedCount; i++) {
                sums[watched[i]] += times * rows[first + watched[i]];
            }
        }
    }

    /** The fewest lamps of one kind by which all rooms are right in an hour. */
    private static final class Kindled {
        private final Balance balance = new Balance();
        // what a lamp in a room gives to each room, and what those in the first i rooms give together
        private final int[] shine = new int[ROOMS * ROOMS];
        private final int[] together = new int[(ROOMS + 1) * ROOMS];
        // how many rooms one of the first i rooms lights at most
        private final int[] widest = new int[ROOMS + 1];
        private final int[] wantsOfHour = new int[HOURS];
        private final int[] lampsOfHour = new int[HOURS];
        private int best = NONE;
        private int bestLamps = 0;

        int lampsOfDay(House house, int kind) {
            int sum = 0;
            for (int hour = 0; hour < HOURS; hour++) {
                wantsOfHour[hour] = house.wantsAt(hour);
                lampsOfHour[hour] = lampsAsBefore(hour);
                if (lampsOfHour[hour] == NONE) {
                    int set = fewest(house, kind, hour);
                    if (set == NONE) {
                        return NONE;
                    }
                    lampsOfHour[hour] = Integer.bitCount(set);
                }
                sum += lampsOfHour[hour];
            }
            return sum;
        }

        /** Hours with the same wants take as many lamps; none, if there was no such hour. */
        private int lampsAsBefore(int hour) {
            for (int before = 0; before < hour; before++) {
                if (wantsOfHour[before] == wantsOfHour[hour]) {
                    return lampsOfHour[before];
                }
            }
            return NONE;
        }

        int fewest(House house, int kind, int hour) {
            best = NONE;
            bestLamps = house.rooms + 1;
            if (balance.begin(house, hour)) {
                lay(house, kind);
                int lack = balance.lacking();
                if (balance.enoughWith(together, house.rooms * ROOMS, lack)) {
                    seek(this, house, house.rooms, 0, lack);
                }
            }
            return best;
        }

        private void lay(House house, int kind) {
            Arrays.fill(shine, 0);
            house.shineOf(kind, shine, 0);
            for (int i = 0; i < house.rooms; i++) {
                widest[i + 1] = Math.max(widest[i], Integer.bitCount(house.lit[i]));
                for (int room = 0; room < house.rooms; room++) {
                    together[(i + 1) * ROOMS + room] = together[i * ROOMS + room] + shine[i * ROOMS + room];
                }
            }
        }

        // Sets come in their order as bits, so that only a smaller one takes the place of an earlier one. A lamp
        // that lights no room that lacks light is never among the fewest: without it all would be right, too.
        private static void seek(Kindled k, House house, int i, int set, int lack) {
            int spared = k.bestLamps - 1 - Integer.bitCount(set);
            if (spared < 0) {
                return;
            }
            if (lack == 0) {
                k.best = set;
                k.bestLamps = Integer.bitCount(set);
                return;
            }
            if (i <= 0 || Integer.bitCount(lack) > spared * k.widest[i]) {
                return;
            }
            int room = i - 1;
            int served = lack & house.lit[room];
            if (k.balance.enoughWith(k.together, room * ROOMS, served)) {
                seek(k, house, room, set, lack);
            }
            if (served != 0) {
                k.balance.add(k.shine, room * ROOMS, 1);
                if (k.balance.isBearable()) {
                    seek(k, house, room, set | 1 << room, k.balance.lacking());
                }
                k.balance.add(k.shine, room * ROOMS, -1);
            }
        }
    }

    /** Lamps of any kinds by which all rooms are right in an hour, for the least oil. */
    private static final class Mixture {
        int bestOil = 0;
        int bestLamps = 0;
        final int[] bestKinds = new int[MIXED_ROOMS];
        // the house, and its wants of an hour, that the best lamps are for
        private House searched = null;
        private int searchedWants = 0;
        private final Balance balance = new Balance();
        private int leastOil = 0;
        private final int[] chosen = new int[MIXED_ROOMS];
        // what a lamp of a kind in a room gives to each room
        private final int[] shine = new int[KINDS * MIXED_ROOMS * ROOMS];
        // what lamps from the i-th room on give to each room at most
        private final int[] together = new int[(MIXED_ROOMS + 1) * ROOMS];

        /** Can it be? The best lamps are kept, as their kinds are mostly asked for room by room. */
        boolean find(House house, int hour) {
            int wants = house.wantsAt(hour);
            if (searched != house || searchedWants != wants) {
                searched = house;
                searchedWants = wants;
                search(house, hour);
            }
            return bestOil < UNBOUNDED;
        }

        private void search(House house, int hour) {
            bestOil = UNBOUNDED;
            bestLamps = 0;
            if (house.rooms > MIXED_ROOMS || !balance.begin(house, hour)) {
                return;
            }
            lay(house);
            int lack = balance.lacking();
            if (balance.enoughWith(together, 0, lack)) {
                seek(this, house, 0, 0, 0, lack);
            }
        }

        private void lay(House house) {
            leastOil = UNBOUNDED;
            Arrays.fill(shine, 0);
            Arrays.fill(together, 0);
            for (int kind = 0; kind < house.kindCount; kind++) {
                leastOil = Math.min(leastOil, house.oilOf(kind));
                house.shineOf(kind, shine, rowOf(kind, 0));
            }
            for (int from = house.rooms - 1; from >= 0; from--) {
                for (int room = 0; room < house.rooms; room++) {
                    int brightest = brightest(house.kindCount, from, room);
                    together[from * ROOMS + room] = together[(from + 1) * ROOMS + room] + brightest;
                }
            }
        }

        private static int rowOf(int kind, int from) {
            return (kind * MIXED_ROOMS + from) * ROOMS;
        }

        private int brightest(int kinds, int from, int room) {
            int light = 0;
            for (int kind = 0; kind < kinds; kind++) {
                light = Math.max(light, shine[rowOf(kind, from) + room]);
            }
            return light;
        }

        private boolean isBetter(int oil, int lamps) {
            return oil < bestOil || oil == bestOil && lamps < bestLamps;
        }

        private void keep(int decided, int oil, int lamps) {
            bestOil = oil;
            bestLamps = lamps;
            for (int room = 0; room < MIXED_ROOMS; room++) {
                bestKinds[room] = room < decided ? chosen[room] : NONE;
            }
        }

        // Choices come in their order, so that only a better one takes the place of an earlier one. A lamp that
        // lights no room that lacks light is never in the best one: without it there is a lamp fewer.
        private static void seek(Mixture m, House house, int room, int oil, int lamps, int lack) {
            if (lack == 0) {
                if (m.isBetter(oil, lamps)) {
                    m.keep(room, oil, lamps);
                }
                return;
            }
            if (room >= house.rooms || !m.isBetter(oil + m.leastOil, lamps + 1)) {
                return;
            }
            int served = lack & house.lit[room];
            m.chosen[room] = NONE;
            if (m.balance.enoughWith(m.together, (room + 1) * ROOMS, served)) {
                seek(m, house, room + 1, oil, lamps, lack);
            }
            for (int kind = 0; kind < house.kindCount && served != 0; kind++) {
                m.balance.add(m.shine, rowOf(kind, room), 1);
                m.chosen[room] = kind;
                if (m.balance.isBearable() && m.balance.enoughWith(m.together, (room + 1) * ROOMS, served)) {
                    seek(m, house, room + 1, oil + house.oilOf(kind), lamps + 1, m.balance.lacking());
                }
                m.balance.add(m.shine, rowOf(kind, room), -1);
            }
        }
    }

    /** One lamp or two that are carried from hour to hour. */
    private static final class Carrier {
        private static final int FAR = 1000000;

        // the house and the call of the plan that stands
        private House planned = null;
        private int lamps = 0;
        private int first = 0;
        private int last = 0;
        private int rooms = 0;
        private int seconds = 0;
        private int leastSum = FAR;
        private final int[] ways = new int[ROOMS * ROOMS];
        // by hour, first lamp's room, second lamp's room: the least walks from there on
        private final int[] sums = new int[HOURS * ROOMS * ROOMS];
        // the same, if only the first lamp has still to be carried
        private final int[] half = new int[ROOMS * ROOMS];

        /** The least sum of walks. It is kept, as places are mostly asked for one by one. */
        int plan(House house, int n, int from, int to) {
            if (planned != house || lamps != n || first != from || last != to) {
                planned = house;
                lamps = n;
                first = from;
                last = to;
                fillHours(house);
            }
            return leastSum < FAR ? leastSum : NONE;
        }

        private void fillHours(House house) {
            rooms = house.rooms;
            // One lamp is carried as two are of which the second stays in room 0 and gives no light.
            seconds = lamps == 2 ? rooms : Math.min(rooms, 1);
            for (int i = 0; i < ways.length; i++) {
                ways[i] = house.walks[i] == NONE ? FAR : house.walks[i];
            }
            int needThen = 0;
            for (int hour = last; hour >= first; hour--) {
                int need = house.needy(hour);
                if (hour < last && need == needThen) {
                    // Who lights what is needed in the next hour, too, may always put off the walk.
                    System.arraycopy(sums, at(hour + 1, 0, 0), sums, at(hour, 0, 0), ROOMS * ROOMS);
                } else {
                    fillHour(house, hour, need);
                }
                needThen = need;
            }
            leastSum = least(first);
        }

        private static int at(int hour, int one, int other) {
            return (hour * ROOMS + one) * ROOMS + other;
        }

        private void fillHour(House house, int hour, int need) {
            if (hour < last) {
                fillHalf(hour + 1);
            }
            for (int one = 0; one < rooms; one++) {
                for (int other = 0; other < seconds; other++) {
                    int given = house.lit[one] | (lamps == 2 ? house.lit[other] : 0);
                    int sum = FAR;
                    if ((need & ~given) == 0) {
                        sum = hour < last ? leastBehind(one, other) : 0;
                    }
                    sums[at(hour, one, other)] = sum;
                }
            }
        }

        private void fillHalf(int hour) {
            for (int one = 0; one < rooms; one++) {
                for (int other = 0; other < seconds; other++) {
                    int sum = FAR;
                    for (int to = 0; to < rooms; to++) {
                        sum = Math.min(sum, ways[one * ROOMS + to] + sums[at(hour, to, other)]);
                    }
                    half[one * ROOMS + other] = sum;
                }
            }
        }

        private int leastBehind(int one, int other) {
            int sum = FAR;
            for (int to = 0; to < seconds; to++) {
                sum = Math.min(sum, ways[other * ROOMS + to] + half[one * ROOMS + to]);
            }
            return sum;
        }

        private int least(int hour) {
            int sum = FAR;
            for (int one = 0; one < rooms; one++) {
                for (int other = 0; other < seconds; other++) {
                    sum = Math.min(sum, sums[at(hour, one, other)]);
                }
            }
            return sum;
        }

        /** The room of a lamp in an hour, by the latest plan that could be. */
        int placeOf(int lamp, int hour) {
            int places = firstPlaces(first, NONE, leastSum);
            for (int then = first + 1; then <= hour && places != NONE; then++) {
                places = firstPlaces(then, places, sums[at(then - 1, 0, 0) + places]);
            }
            return lamp == 0 ? places / ROOMS : places % ROOMS;
        }

        /** The first places in an hour from which on, with the walk there, the sum is as told. */
        private int firstPlaces(int hour, int before, int sum) {
            for (int one = 0; one < rooms; one++) {
                for (int other = 0; other < seconds; other++) {
                    int walk = 0;
                    if (before != NONE) {
                        walk = ways[before / ROOMS * ROOMS + one] + ways[before % ROOMS * ROOMS + other];
                    }
                    if (walk + sums[at(hour, one, other)] == sum) {
                        return one * ROOMS + other;
                    }
                }
            }
            return NONE;
        }
    }

    /** What tenants save together, and what each is owed of it. */
    private static final class Tenants {
        private final int[] gives = new int[ROOMS];
        private final int[] reach = new int[ROOMS + 1];
        private int best = 0;
        // the savings of all sets of tenants of one house
        private final int[] savings = new int[1 << OWED_ROOMS];
        private House saved = null;

        /** The most that a set of tenants saves by lamps in their rooms, against all of them being dark. */
        int savingOf(House house, int set) {
            best = 0;
            for (int i = 0; i < house.rooms; i++) {
                gives[i] = (set >> i & 1) != 0 ? house.lit[i] & set : 0;
                reach[i + 1] = reach[i] | gives[i];
            }
            seek(this, house, house.rooms, 0, 0);
            return best;
        }

        // A lamp that costs as much as the rooms that it lights anew can be left out of any set.
        private static void seek(Tenants t, House house, int i, int lit, int burnt) {
            int dear = house.dear;
            t.best = Math.max(t.best, dear * Integer.bitCount(lit) - burnt);
            if (i <= 0 || dear * Integer.bitCount(lit | t.reach[i]) - burnt <= t.best) {
                return;
            }
            int room = i - 1;
            int anew = t.gives[room] & ~lit;
            int burns = house.burns[room];
            if (burns < dear * Integer.bitCount(anew)) {
                seek(t, house, room, lit | anew, burnt + burns);
            }
            seek(t, house, room, lit, burnt);
        }

        private void findSavings(House house) {
            if (saved == house) {
                return;
            }
            for (int set = 0; set < savings.length && set <= house.allRooms(); set++) {
                savings[set] = savingOf(house, set);
            }
            saved = house;
        }

        /** What a tenant adds to the saving of those ahead of it, summed over all orders of tenants. */
        long owedOverOrders(House house, int room) {
            findSavings(house);
            long sum = 0;
            int me = 1 << room;
            for (int set = 0; set < savings.length && set <= house.allRooms(); set++) {
                if ((set & me) == 0) {
                    int ahead = Integer.bitCount(set);
                    long orders = factorial(ahead) * factorial(house.rooms - 1 - ahead);
                    sum += orders * (savings[set | me] - savings[set]);
                }
            }
            return sum;
        }

        /** The least set that saves more than a tray tells to its tenants. */
        int firstWronged(House house, Trays trays, int tray) {
            findSavings(house);
            for (int set = 1; set < savings.length && set <= house.allRooms(); set++) {
                long told = 0;
                for (int room = 0; room < house.rooms; room++) {
                    if ((set >> room & 1) != 0) {
                        told += trays.numberAt(tray, room);
                    }
                }
                if (savings[set] > told) {
                    return set;
                }
            }
            return NONE;
        }
    }

    /** The shortest way round with one lamp by which all rooms are lit. */
    private static final class Rounds {
        final int rooms;
        // There is a way round a tree of all rooms with 22 steps, so none needs more.
        final int[] path = new int[2 * ROUND_ROOMS];
        // A state is the rooms that are lit so far and the room where one stands. By state: 1 and the place in the
        // queue of the state from which it was come to; 0 as long as it hasn't been.
        private final int[] ahead;
        private final int[] queue;
        private int queued = 0;
        // the house and the first room of the round that the path is of
        private House walked = null;
        private int walkedFrom = NONE;
        private int walkedSteps = NONE;

        /** For so many rooms or fewer. */
        Rounds(int many) {
            rooms = Math.max(1, Math.min(many, ROUND_ROOMS));
            ahead = new int[rooms << rooms];
            queue = new int[rooms << rooms];
        }

        /** The round is kept, as its rooms are mostly asked for one by one. */
        int stepsFrom(House house, int start) {
            if (walked != house || walkedFrom != start) {
                walked = house;
                walkedFrom = start;
                walkedSteps = search(house, start);
            }
            return walkedSteps;
        }

        // States come in the order of the first ways to them, so that the goal is come to by the first of all.
        private int search(House house, int start) {
            if (!canBe(house, start)) {
                return NONE;
            }
            int goal = stateOf(house.allRooms(), start);
            queued = 0;
            enter(stateOf(house.lit[start], start), 0);
            for (int i = 0; i < queue.length && i < queued && ahead[goal] == 0; i++) {
                int lit = queue[i] / rooms;
                int room = queue[i] % rooms;
                int beside = house.next[room] | house.lit[room];
                for (int then = 0; then < house.rooms; then++) {
                    if ((beside >> then & 1) != 0) {
                        enter(stateOf(lit | house.lit[then], then), i);
                    }
                }
            }
            int steps = ahead[goal] == 0 ? NONE : tracePath(goal);
            forget();
            return steps;
        }

        private static boolean canBe(House house, int start) {
            int near = 0;
            for (int room = 0; room < house.rooms; room++) {
                if (house.walks[start * ROOMS + room] != NONE) {
                    near |= 1 << room;
                }
            }
            return house.litBy(near) == house.allRooms();
        }

        private int stateOf(int lit, int room) {
            return lit * rooms + room;
        }

        private void enter(int state, int before) {
            if (ahead[state] == 0 && queued < queue.length) {
                ahead[state] = before + 1;
                queue[queued] = state;
                queued++;
            }
        }

        /** Writes down the way to the goal: how many steps it has. */
        private int tracePath(int goal) {
            int steps = 0;
            int state = goal;
            while (steps < path.length - 1 && state != queue[0]) {
                state = before(state);
                steps++;
            }
            state = goal;
            for (int i = steps; i >= 0; i--) {
                path[i] = state % rooms;
                state = before(state);
            }
            return steps;
        }

        private int before(int state) {
            int i = ahead[state] - 1;
            return i >= 0 ? queue[i] : state;
        }

        private void forget() {
            for (int i = 0; i < queued; i++) {
                ahead[queue[i]] = 0;
            }
        }
    }
}
