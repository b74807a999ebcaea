/** A village oven: its masonry, its breads, its plans, its households and its weeks' notes. */
public final class VillageOven {
    public static final int NONE = -1, BAD = -2, NOT = -3, FULL = -4;

    private static final int RINGS = 4;
    private static final int FIRE_RINGS = 3;
    private static final int LAYERS = 3;
    private static final int LINING = 0;
    private static final int BODY = 1;
    private static final int SKIN = 2;
    private static final int[] MASS = {10, 30, 60};
    private static final int[] ROOM = {2, 3, 4, 4};
    private static final int[] DOOR_DRAUGHT = {0, 1, 2, 4};
    private static final int FIRST_WARMTH = 10;
    private static final long HELD_AT_FIRST = 4000;
    private static final int MOST_AIR = 40;
    private static final int MOST_DAMP = 1000;
    private static final int MOST_CRACK = 4;
    private static final int MOST_LOGS = 30;
    private static final int MOST_SIZE = 50;
    private static final int MOST_WATER = 60;
    private static final int MOST_TICKS = 60;
    private static final int MOST_WARMTH = 2000;
    private static final int BREAD_TAKES = 15;

    private static final int MOST_KINDS = 8;
    private static final int MOST_PLACES = 3;
    private static final int MOST_LEAST = 30;
    private static final int MOST_MOST = 60;
    private static final int MOST_SCORCHED = 9;
    private static final int MOST_FIRST_HEAT = 30;
    private static final int MOST_INSIDE = 12;
    private static final int MOST_LOAVES = 200;
    private static final int RIGHT = 0;
    private static final int SCORCHED = 1;
    private static final int PALE = 2;
    private static final int RAW = 0;
    private static final int GOOD = 1;
    private static final int BURNT = 2;
    private static final int DRY = 3;

    private static final int MOST_ORDERS = 4;
    private static final int MOST_OPENINGS = 3;
    private static final int LAST_TICK = 40;
    /** The pairs of openings in the order in which a plan prefers them. */
    private static final int[] PAIR_IN = {0, 0, 1};
    private static final int[] PAIR_OUT = {1, 2, 2};
    private static final int CHOICES = 12;
    private static final int NOTHING = 12;

    private static final int LEAST_HOUSEHOLDS = 2;
    private static final int MOST_HOUSEHOLDS = 8;
    private static final int WEEKS = 61;
    private static final int MOST_TOLD = 30;
    private static final int MOST_SLOTS = 8;
    private static final int ROUND = 0;
    private static final int LOTS = 1;

    private static final int UNKNOWN = 0;
    private static final int NOTE_WELL = 1;
    private static final int NOTE_BURNT = 2;
    private static final int NOTE_PALE = 3;
    private static final int MOST_BRICKS = 10;
    private static final int ALL_WELL = 0;
    private static final int CRACKED = 1;
    private static final int HOT_SPOT = 2;

    private final Masonry masonry;
    private final Kinds kinds;
    private final Loaves loaves;
    private final Planner planner;
    private final WoodFinder woodFinder;
    private final Turns turns;
    private final Book book;
    private int ticksGone;

    public VillageOven() {
        masonry = new Masonry();
        kinds = new Kinds();
        loaves = new Loaves(kinds);
        planner = new Planner(kinds);
        woodFinder = new WoodFinder();
        turns = new Turns();
        book = new Book();
        ticksGone = 0;
    }

    // ---- the oven

    public int air(int v) {
        if (!within(v, 0, MOST_AIR)) {
            return BAD;
        }
        int was = masonry.outside;
        masonry.outside = v;
        return was;
    }

    public int damp(int ring, int v) {
        if (!isRing(ring) || !within(v, 0, MOST_DAMP)) {
            return BAD;
        }
        int was = masonry.damps[ring];
        masonry.damps[ring] = v;
        return was;
    }

    public int crack(int ring, int v) {
        if (!isRing(ring) || !within(v, 0, MOST_CRACK)) {
            return BAD;
        }
        int was = masonry.cracks[ring];
        masonry.cracks[ring] = v;
        return was;
    }

    public int fire(int ring) {
        if (!within(ring, 0, FIRE_RINGS - 1)) {
            return BAD;
        }
        int was = masonry.fireRing;
        masonry.fireRing = ring;
        return was;
    }

    public int log(int size, int water) {
        if (!isLog(size, water)) {
            return BAD;
        }
        if (masonry.logCount >= MOST_LOGS) {
            return FULL;
        }
        masonry.layLog(size, water);
        return masonry.logCount;
    }

    public int ticks(int n) {
        if (!within(n, 1, MOST_TICKS)) {
            return BAD;
        }
        for (int i = 0; i < n; i++) {
            masonry.passTick(loaves.doorOpen);
            loaves.bake(masonry);
            loaves.doorOpen = false;
            ticksGone++;
        }
        return masonry.logCount;
    }

    public long heat(int ring, int layer, int what) {
        if (!isRing(ring) || !within(layer, 0, LAYERS - 1) || !within(what, 0, 1)) {
            return BAD;
        }
        return what == 0 ? masonry.heatOf(ring, layer) : masonry.warmthOf(ring, layer);
    }

    public long sum(int what) {
        switch (what) {
            case 0:
                return masonry.broughtIn;
            case 1:
                return masonry.held();
            case 2:
                return masonry.lost;
            case 3:
                return loaves.given;
            case 4:
                return HELD_AT_FIRST;
            default:
                return BAD;
        }
    }

    // ---- breads, loaves

    public int kind(int places, boolean crown, int least, int most, int from, int to, int scorched) {
        if (!within(places, 1, MOST_PLACES) || (crown && places == 1)) {
            return BAD;
        }
        if (!within(least, 1, MOST_LEAST) || !within(most, least, MOST_MOST)) {
            return BAD;
        }
        if (!isSpan(from, to) || !within(scorched, 0, MOST_SCORCHED)) {
            return BAD;
        }
        if (kinds.size >= MOST_KINDS) {
            return FULL;
        }
        return kinds.addKind(places, crown, least, most, from, to, scorched);
    }

    public int second(int kind, int n, int from, int to) {
        if (!kinds.has(kind) || !within(n, 1, MOST_FIRST_HEAT) || !isSpan(from, to)) {
            return BAD;
        }
        if (kinds.hasTwoHeats(kind) || loaves.anyInsideOf(kind)) {
            return NOT;
        }
        kinds.giveSecondHeat(kind, n, from, to);
        return 1;
    }

    public int put(int kind, int ring) {
        if (!kinds.has(kind) || !isRing(ring)) {
            return BAD;
        }
        if (!loaves.fits(kind, ring)) {
            return NOT;
        }
        if (loaves.inside >= MOST_INSIDE || loaves.made >= MOST_LOAVES) {
            return FULL;
        }
        return loaves.layIn(kind, ring);
    }

    public int move(int loaf, int ring) {
        if (!loaves.has(loaf) || !isRing(ring) || loaves.rings[loaf] == ring) {
            return BAD;
        }
        if (loaves.isOut(loaf) || !loaves.fits(loaves.kindOf[loaf], ring) || !loaves.mayLeave(loaf)) {
            return NOT;
        }
        return loaves.shift(loaf, ring);
    }

    public int take(int loaf) {
        if (!loaves.has(loaf)) {
            return BAD;
        }
        if (loaves.isOut(loaf) || !loaves.mayLeave(loaf)) {
            return NOT;
        }
        return loaves.drawOut(loaf);
    }

    public int loaf(int loaf, int what) {
        if (!loaves.has(loaf)) {
            return BAD;
        }
        switch (what) {
            case 0:
                return loaves.kindOf[loaf];
            case 1:
                return loaves.rings[loaf];
            case 2:
                return loaves.ages[loaf];
            case 3:
                return loaves.rightTicks[loaf];
            case 4:
                return loaves.scorchedTicks[loaf];
            case 5:
                return loaves.paleTicks[loaf];
            default:
                return BAD;
        }
    }

    public int room(int ring) {
        if (!isRing(ring)) {
            return BAD;
        }
        return ROOM[ring] - loaves.loads[ring].used();
    }

    // ---- plans, wood

    public int order(int kind) {
        if (!kinds.has(kind)) {
            return BAD;
        }
        if (planner.orderCount >= MOST_ORDERS) {
            return FULL;
        }
        return planner.addOrder(kind);
    }

    public int opening(int tick) {
        if (!within(tick, planner.firstFreeTick(), LAST_TICK)) {
            return BAD;
        }
        if (planner.openingCount >= MOST_OPENINGS) {
            return FULL;
        }
        return planner.addOpening(tick);
    }

    public int clear() {
        int was = planner.orderCount;
        planner.orderCount = 0;
        planner.openingCount = 0;
        return was;
    }

    public int plan() {
        if (loaves.inside > 0) {
            return NOT;
        }
        planner.makePlan(masonry);
        return planner.mostBaked;
    }

    public int planned(int order, int what) {
        if (!within(order, 0, planner.orderCount - 1) || !within(what, 0, 2)) {
            return BAD;
        }
        if (loaves.inside > 0) {
            return NOT;
        }
        planner.makePlan(masonry);
        return planner.tell(order, what);
    }

    public int last(int what) {
        if (!within(what, 0, 1)) {
            return BAD;
        }
        if (loaves.inside > 0) {
            return NOT;
        }
        if (planner.openingCount >= MOST_OPENINGS) {
            return FULL;
        }
        planner.findBestLast(masonry);
        return what == 0 ? planner.lastTick : planner.lastBaked;
    }

    public int wood(int v, int ring, int r, int size, int water) {
        if (!within(v, 0, MOST_WARMTH) || !isRing(ring) || !within(r, 0, LAST_TICK) || !isLog(size, water)) {
            return BAD;
        }
        if (loaves.inside > 0) {
            return NOT;
        }
        woodFinder.begin(masonry);
        for (int logs = 1; logs <= MOST_LOGS; logs++) {
            woodFinder.burnOneMore(size, water);
            if (woodFinder.warmthAfter(r, ring) >= v) {
                return logs;
            }
        }
        return NONE;
    }

    // ---- households

    public int households(int n) {
        if (!within(n, LEAST_HOUSEHOLDS, MOST_HOUSEHOLDS)) {
            return BAD;
        }
        int was = turns.size;
        turns.size = n;
        turns.toldCount = 0;
        return was;
    }

    public int custom(int custom, int seed) {
        if (!within(custom, ROUND, LOTS) || seed < 0) {
            return BAD;
        }
        turns.rule = custom;
        turns.seed = seed;
        return 1;
    }

    public int told(int week, int a, int b, boolean gift) {
        if (!isWeek(week) || !turns.has(a) || !turns.has(b) || a == b) {
            return BAD;
        }
        if (turns.toldCount >= MOST_TOLD) {
            return FULL;
        }
        turns.addTold(week, a, b, gift);
        return 1;
    }

    public int slots(int v) {
        if (!within(v, 1, MOST_SLOTS)) {
            return BAD;
        }
        int was = turns.bakers;
        turns.bakers = v;
        return was;
    }

    public int at(int week, int place) {
        if (!isWeek(week) || !within(place, 0, turns.size - 1)) {
            return BAD;
        }
        turns.makeRow(week);
        return turns.row[place];
    }

    public int waits(int household, int from, int to, int what) {
        if (!turns.has(household) || !isWeek(from) || !isWeek(to) || from > to || !within(what, 0, 1)) {
            return BAD;
        }
        return what == 0 ? turns.weeksWaited(household, from, to) : turns.firstWeekAhead(household, from, to);
    }

    // ---- notes

    public int note(int week, int ring, int v) {
        if (!isWeek(week) || !isRing(ring) || !within(v, UNKNOWN, NOTE_PALE)) {
            return BAD;
        }
        int was = book.notes[week * RINGS + ring];
        book.notes[week * RINGS + ring] = v;
        return was;
    }

    public int lose(int week) {
        if (!isWeek(week)) {
            return BAD;
        }
        return book.forget(week);
    }

    public int bricks(int ring, int week) {
        if (!isRing(ring) || !isWeek(week)) {
            return BAD;
        }
        if (book.brickCount >= MOST_BRICKS) {
            return FULL;
        }
        return book.addBricks(ring, week);
    }

    public int best(int what) {
        if (!within(what, 0, 3)) {
            return BAD;
        }
        book.findBest();
        switch (what) {
            case 0:
                return book.bestSort;
            case 1:
                return book.bestRing;
            case 2:
                return book.bestWeek;
            default:
                return book.bestExplained;
        }
    }

    public int explains(int sort, int ring, int week) {
        if (!within(sort, ALL_WELL, HOT_SPOT) || !isRing(ring) || !isWeek(week)) {
            return BAD;
        }
        if (sort == ALL_WELL) {
            return ring == 0 && week == 0 ? book.wellNotes() : BAD;
        }
        return book.wellNotes() + book.gain(sort, ring, week);
    }

    public int count(int what) {
        switch (what) {
            case 0:
                return masonry.logCount;
            case 1:
                return loaves.inside;
            case 2:
                return kinds.size;
            case 3:
                return planner.orderCount;
            case 4:
                return planner.openingCount;
            case 5:
                return ticksGone;
            case 6:
                return loaves.goodOnes;
            case 7:
                return book.knownNotes();
            case 8:
                return turns.toldCount;
            default:
                return BAD;
        }
    }

    private static boolean within(int v, int low, int high) {
        return v >= low && v <= high;
    }

    private static boolean isRing(int ring) {
        return within(ring, 0, RINGS - 1);
    }

    private static boolean isWeek(int week) {
        return within(week, 0, WEEKS - 1);
    }

    private static boolean isSpan(int from, int to) {
        return within(from, 0, MOST_WARMTH) && within(to, from, MOST_WARMTH);
    }

    private static boolean isLog(int size, int water) {
        return within(size, 1, MOST_SIZE) && within(water, 0, MOST_WATER);
    }

    /** The heats of all layers, with what heats, wets and cools them; bread is none of its business. */
    private static final class Masonry {
        final long[] heats = new long[RINGS * LAYERS];
        final int[] damps = new int[RINGS];
        final int[] cracks = new int[RINGS];
        final int[] logSizes = new int[MOST_LOGS];
        final int[] logWaters = new int[MOST_LOGS];
        int logCount;
        int fireRing;
        int outside;
        long broughtIn;
        long lost;

        Masonry() {
            outside = FIRST_WARMTH;
            for (int ring = 0; ring < RINGS; ring++) {
                for (int layer = 0; layer < LAYERS; layer++) {
                    heats[ring * LAYERS + layer] = FIRST_WARMTH * MASS[layer];
                }
            }
        }

        void copyFrom(Masonry other) {
            System.arraycopy(other.heats, 0, heats, 0, RINGS * LAYERS);
            System.arraycopy(other.damps, 0, damps, 0, RINGS);
            System.arraycopy(other.cracks, 0, cracks, 0, RINGS);
            System.arraycopy(other.logSizes, 0, logSizes, 0, MOST_LOGS);
            System.arraycopy(other.logWaters, 0, logWaters, 0, MOST_LOGS);
            logCount = other.logCount;
            fireRing = other.fireRing;
            outside = other.outside;
            broughtIn = other.broughtIn;
            lost = other.lost;
        }

        long heatOf(int ring, int layer) {
            return heats[ring * LAYERS + layer];
        }

        long warmthOf(int ring, int layer) {
            return heats[ring * LAYERS + layer] / MASS[layer];
        }

        long held() {
            long all = 0;
            for (int i = 0; i < RINGS * LAYERS; i++) {
                all += heats[i];
            }
            return all;
        }

        void layLog(int size, int water) {
            if (logCount < MOST_LOGS) {
                logSizes[logCount] = size;
                logWaters[logCount] = water;
                logCount++;
            }
        }

        /** The first five steps of a tick; the sixth, the bread, is the loaves' own. */
        void passTick(boolean doorOpen) {
            burn();
            dry();
            soak();
            evenSides();
            loseOutside(doorOpen);
        }

        /** What there is, if less than what is asked; answers what was taken. */
        long drawFromLining(int ring, long asked) {
            int lining = ring * LAYERS + LINING;
            long taken = Math.min(asked, heats[lining]);
            heats[lining] -= taken;
            return taken;
        }

        private void burn() {
            if (logCount <= 0) {
                return;
            }
            long comes = logSizes[0] * (2000 - 26 * logWaters[0]) / 10;
            logCount--;
            System.arraycopy(logSizes, 1, logSizes, 0, logCount);
            System.arraycopy(logWaters, 1, logWaters, 0, logCount);
            long toOwn = comes / 2;
            long toNext = (comes - toOwn) / 2;
            int before = Math.max(0, fireRing - 1);
            heats[fireRing * LAYERS + LINING] += toOwn;
            heats[(fireRing + 1) * LAYERS + LINING] += toNext;
            heats[before * LAYERS + LINING] += comes - toOwn - toNext;
            broughtIn += comes;
        }

        private void dry() {
            for (int ring = 0; ring < RINGS; ring++) {
                long warmth = warmthOf(ring, LINING);
                if (damps[ring] > 0 && warmth >= 90) {
                    long dried = Math.min((warmth - 90) / 4 + 1, damps[ring]);
                    damps[ring] -= (int) dried;
                    heats[ring * LAYERS + LINING] -= 25 * dried;
                    lost += 25 * dried;
                }
            }
        }

        private void soak() {
            for (int ring = 0; ring < RINGS; ring++) {
                long body = warmthOf(ring, BODY);
                long toBody = 2 * (warmthOf(ring, LINING) - body);
                long toSkin = (2 + cracks[ring]) * (body - warmthOf(ring, SKIN));
                heats[ring * LAYERS + LINING] -= toBody;
                heats[ring * LAYERS + BODY] += toBody - toSkin;
                heats[ring * LAYERS + SKIN] += toSkin;
            }
        }

        /** Each warmth is read before the flow from the ring ahead changes it: all comes at once. */
        private void evenSides() {
            long here = warmthOf(0, LINING);
            for (int ring = 0; ring < RINGS - 1; ring++) {
                long there = warmthOf(ring + 1, LINING);
                heats[ring * LAYERS + LINING] -= here - there;
                heats[(ring + 1) * LAYERS + LINING] += here - there;
                here = there;
            }
        }

        private void loseOutside(boolean doorOpen) {
            for (int ring = 0; ring < RINGS; ring++) {
                loseFrom(ring, SKIN, 1 + cracks[ring]);
                if (doorOpen) {
                    loseFrom(ring, LINING, DOOR_DRAUGHT[ring]);
                }
            }
        }

        private void loseFrom(int ring, int layer, int times) {
            long loss = times * Math.max(0, warmthOf(ring, layer) - outside);
            heats[ring * LAYERS + layer] -= loss;
            lost += loss;
        }
    }

    /** The kinds of bread, and what they make of warmths and ticks. */
    private static final class Kinds {
        final int[] places = new int[MOST_KINDS];
        final boolean[] crowns = new boolean[MOST_KINDS];
        final int[] leasts = new int[MOST_KINDS];
        final int[] mosts = new int[MOST_KINDS];
        final int[] froms = new int[MOST_KINDS];
        final int[] tos = new int[MOST_KINDS];
        final int[] scorchedMosts = new int[MOST_KINDS];
        /** Behind how many ticks the second heat begins; 0: there is none. */
        final int[] firstHeats = new int[MOST_KINDS];
        final int[] secondFroms = new int[MOST_KINDS];
        final int[] secondTos = new int[MOST_KINDS];
        int size;

        boolean has(int kind) {
            return within(kind, 0, size - 1);
        }

        int addKind(int place, boolean crown, int least, int most, int from, int to, int scorched) {
            places[size] = place;
            crowns[size] = crown;
            leasts[size] = least;
            mosts[size] = most;
            froms[size] = from;
            tos[size] = to;
            scorchedMosts[size] = scorched;
            firstHeats[size] = 0;
            size++;
            return size - 1;
        }

        boolean hasTwoHeats(int kind) {
            return firstHeats[kind] > 0;
        }

        void giveSecondHeat(int kind, int n, int from, int to) {
            firstHeats[kind] = n;
            secondFroms[kind] = from;
            secondTos[kind] = to;
        }

        /** RIGHT, SCORCHED or PALE in the tick of that age (the first being 1). */
        int lookAt(int kind, int age, long warmth) {
            boolean second = hasTwoHeats(kind) && age > firstHeats[kind];
            if (warmth > (second ? secondTos[kind] : tos[kind])) {
                return SCORCHED;
            }
            return warmth < (second ? secondFroms[kind] : froms[kind]) ? PALE : RIGHT;
        }

        int resultOf(int kind, int age, int right, int scorched) {
            if (scorched > scorchedMosts[kind]) {
                return BURNT;
            }
            if (right < leasts[kind]) {
                return RAW;
            }
            return age > mosts[kind] ? DRY : GOOD;
        }
    }

    /** What stands in one ring at one time. */
    private static final class Load {
        int bigPlaces;
        int ones;
        int crowns;

        /** times 1 puts one of a kind in, times -1 takes it out. */
        void change(Kinds kinds, int kind, int times) {
            if (kinds.places[kind] == 1) {
                ones += times;
            } else {
                bigPlaces += times * kinds.places[kind];
            }
            if (kinds.crowns[kind]) {
                crowns += times;
            }
        }

        int used() {
            return bigPlaces + Math.max(0, ones - crowns);
        }
    }

    /** All loaves that were ever put in. */
    private static final class Loaves {
        final Kinds kinds;
        final Load[] loads = new Load[RINGS];
        final int[] kindOf = new int[MOST_LOAVES];
        final int[] rings = new int[MOST_LOAVES];
        final int[] ages = new int[MOST_LOAVES];
        final int[] rightTicks = new int[MOST_LOAVES];
        final int[] scorchedTicks = new int[MOST_LOAVES];
        final int[] paleTicks = new int[MOST_LOAVES];
        int made;
        int inside;
        int goodOnes;
        long given;
        boolean doorOpen;

        Loaves(Kinds theKinds) {
            kinds = theKinds;
            for (int ring = 0; ring < RINGS; ring++) {
                loads[ring] = new Load();
            }
        }

        boolean has(int loaf) {
            return within(loaf, 0, made - 1);
        }

        boolean isOut(int loaf) {
            return rings[loaf] == NONE;
        }

        boolean anyInsideOf(int kind) {
            for (int loaf = 0; loaf < made; loaf++) {
                if (!isOut(loaf) && kindOf[loaf] == kind) {
                    return true;
                }
            }
            return false;
        }

        boolean fits(int kind, int ring) {
            return usedWith(kind, ring, 1) <= ROOM[ring];
        }

        boolean mayLeave(int loaf) {
            int ring = rings[loaf];
            return usedWith(kindOf[loaf], ring, -1) <= ROOM[ring];
        }

        int layIn(int kind, int ring) {
            kindOf[made] = kind;
            rings[made] = ring;
            loads[ring].change(kinds, kind, 1);
            inside++;
            doorOpen = true;
            made++;
            return made - 1;
        }

        int shift(int loaf, int ring) {
            int was = rings[loaf];
            loads[was].change(kinds, kindOf[loaf], -1);
            loads[ring].change(kinds, kindOf[loaf], 1);
            rings[loaf] = ring;
            doorOpen = true;
            return was;
        }

        int drawOut(int loaf) {
            loads[rings[loaf]].change(kinds, kindOf[loaf], -1);
            rings[loaf] = NONE;
            inside--;
            doorOpen = true;
            int result = kinds.resultOf(kindOf[loaf], ages[loaf], rightTicks[loaf], scorchedTicks[loaf]);
            if (result == GOOD) {
                goodOnes++;
            }
            return result;
        }

        /** All take their heat before any is looked at: the look goes by the end of the tick. */
        void bake(Masonry masonry) {
            for (int loaf = 0; loaf < made; loaf++) {
                if (!isOut(loaf)) {
                    given += masonry.drawFromLining(rings[loaf], BREAD_TAKES);
                }
            }
            for (int loaf = 0; loaf < made; loaf++) {
                if (!isOut(loaf)) {
                    grow(loaf, masonry.warmthOf(rings[loaf], LINING));
                }
            }
        }

        private void grow(int loaf, long warmth) {
            ages[loaf]++;
            int look = kinds.lookAt(kindOf[loaf], ages[loaf], warmth);
            if (look == RIGHT) {
                rightTicks[loaf]++;
            } else if (look == SCORCHED) {
                scorchedTicks[loaf]++;
            } else {
                paleTicks[loaf]++;
            }
        }

        private int usedWith(int kind, int ring, int times) {
            Load load = loads[ring];
            load.change(kinds, kind, times);
            int used = load.used();
            load.change(kinds, kind, -times);
            return used;
        }
    }

    /** Orders and openings, and the plan that bakes the most of them. */
    private static final class Planner {
        final Kinds kinds;
        final Masonry ahead = new Masonry();
        /** Warmth of the lining of each ring at the end of each tick ahead. */
        final long[] forecast = new long[LAST_TICK * RINGS];
        final int[] orders = new int[MOST_ORDERS];
        final int[] openings = new int[MOST_OPENINGS];
        final boolean[] good = new boolean[MOST_ORDERS * CHOICES];
        /** How many of the orders from here on have any good choice. */
        final int[] hope = new int[MOST_ORDERS + 1];
        /** Of each ring between two openings; all empty but while a plan is searched. */
        final Load[] loads = new Load[(MOST_OPENINGS - 1) * RINGS];
        final int[] tried = new int[MOST_ORDERS];
        final int[] chosen = new int[MOST_ORDERS];
        int orderCount;
        int openingCount;
        int mostBaked;
        int lastTick;
        int lastBaked;

        Planner(Kinds theKinds) {
            kinds = theKinds;
            for (int i = 0; i < loads.length; i++) {
                loads[i] = new Load();
            }
        }

        int addOrder(int kind) {
            orders[orderCount] = kind;
            orderCount++;
            return orderCount - 1;
        }

        int addOpening(int tick) {
            openings[openingCount] = tick;
            openingCount++;
            return openingCount;
        }

        int firstFreeTick() {
            return openingCount == 0 ? 0 : openings[openingCount - 1] + 1;
        }

        void makePlan(Masonry now) {
            foresee(now);
            choose();
        }

        int tell(int order, int what) {
            int choice = chosen[order];
            if (!within(choice, 0, CHOICES - 1)) {
                return NONE;
            }
            if (what == 0) {
                return choice % RINGS;
            }
            int pair = choice / RINGS;
            return openings[what == 1 ? PAIR_IN[pair] : PAIR_OUT[pair]];
        }

        /** One forecast serves all ticks: no loaf is left inside when the last opening cools the oven. */
        void findBestLast(Masonry now) {
            foresee(now);
            lastTick = NONE;
            lastBaked = NONE;
            int from = firstFreeTick();
            for (int tick = from; tick <= LAST_TICK && lastBaked < orderCount; tick++) {
                addOpening(tick);
                choose();
                openingCount--;
                if (mostBaked > lastBaked) {
                    lastTick = tick;
                    lastBaked = mostBaked;
                }
            }
        }

        private void foresee(Masonry now) {
            ahead.copyFrom(now);
            for (int tick = 0; tick < LAST_TICK; tick++) {
                ahead.passTick(isOpening(tick));
                for (int ring = 0; ring < RINGS; ring++) {
                    forecast[tick * RINGS + ring] = ahead.warmthOf(ring, LINING);
                }
            }
        }

        private boolean isOpening(int tick) {
            for (int i = 0; i < openingCount; i++) {
                if (openings[i] == tick) {
                    return true;
                }
            }
            return false;
        }

        private void choose() {
            judgeChoices();
            mostBaked = NONE;
            search(this, 0, 0);
        }

        private void judgeChoices() {
            hope[orderCount] = 0;
            for (int order = orderCount - 1; order >= 0; order--) {
                boolean any = false;
                for (int choice = 0; choice < CHOICES; choice++) {
                    boolean isGood = bakesWell(orders[order], choice);
                    good[order * CHOICES + choice] = isGood;
                    any = any || isGood;
                }
                hope[order] = hope[order + 1] + (any ? 1 : 0);
            }
        }

        private boolean bakesWell(int kind, int choice) {
            int pair = choice / RINGS;
            int ring = choice % RINGS;
            if (PAIR_OUT[pair] >= openingCount || kinds.places[kind] > ROOM[ring]) {
                return false;
            }
            int in = openings[PAIR_IN[pair]];
            int out = openings[PAIR_OUT[pair]];
            int right = 0;
            int scorched = 0;
            for (int tick = in; tick < out; tick++) {
                int look = kinds.lookAt(kind, tick - in + 1, forecast[tick * RINGS + ring]);
                right += look == RIGHT ? 1 : 0;
                scorched += look == SCORCHED ? 1 : 0;
            }
            return kinds.resultOf(kind, out - in, right, scorched) == GOOD;
        }

        /** Tries choices in the order of preference, so the first plan of its count is the one to keep. */
        private static void search(Planner p, int order, int baked) {
            if (order >= p.orderCount) {
                p.keepIfBetter(baked);
                return;
            }
            if (baked + p.hope[order] <= p.mostBaked) {
                return;
            }
            for (int choice = 0; choice < CHOICES; choice++) {
                if (p.good[order * CHOICES + choice]) {
                    p.tried[order] = choice;
                    if (p.occupy(order, choice, 1)) {
                        search(p, order + 1, baked + 1);
                    }
                    p.occupy(order, choice, -1);
                }
            }
            p.tried[order] = NOTHING;
            search(p, order + 1, baked);
        }

        private void keepIfBetter(int baked) {
            if (baked > mostBaked) {
                mostBaked = baked;
                System.arraycopy(tried, 0, chosen, 0, MOST_ORDERS);
            }
        }

        /** Puts an order in its ring (times 1) or takes it out (-1); answers whether room is kept there. */
        private boolean occupy(int order, int choice, int times) {
            int pair = choice / RINGS;
            int ring = choice % RINGS;
            boolean kept = true;
            for (int span = PAIR_IN[pair]; span < PAIR_OUT[pair]; span++) {
                Load load = loads[span * RINGS + ring];
                load.change(kinds, orders[order], times);
                kept = kept && load.used() <= ROOM[ring];
            }
            return kept;
        }
    }

    /** Burns logs one by one in a copy of the oven, its door shut. */
    private static final class WoodFinder {
        final Masonry burning = new Masonry();
        final Masonry resting = new Masonry();

        void begin(Masonry now) {
            burning.copyFrom(now);
            int there = burning.logCount;
            for (int i = 0; i < there; i++) {
                burning.passTick(false);
            }
        }

        void burnOneMore(int size, int water) {
            burning.layLog(size, water);
            burning.passTick(false);
        }

        long warmthAfter(int rest, int ring) {
            resting.copyFrom(burning);
            for (int i = 0; i < rest; i++) {
                resting.passTick(false);
            }
            return resting.warmthOf(ring, LINING);
        }
    }

    /** The households and whose turn it is. */
    private static final class Turns {
        final int[] toldWeeks = new int[MOST_TOLD];
        final int[] toldAs = new int[MOST_TOLD];
        final int[] toldBs = new int[MOST_TOLD];
        final boolean[] gifts = new boolean[MOST_TOLD];
        final int[] row = new int[MOST_HOUSEHOLDS];
        int toldCount;
        int size;
        int rule;
        int seed;
        int bakers;

        Turns() {
            size = 4;
            rule = ROUND;
            bakers = 3;
        }

        boolean has(int household) {
            return within(household, 0, size - 1);
        }

        void addTold(int week, int a, int b, boolean gift) {
            toldWeeks[toldCount] = week;
            toldAs[toldCount] = a;
            toldBs[toldCount] = b;
            gifts[toldCount] = gift;
            toldCount++;
        }

        int weeksWaited(int household, int from, int to) {
            int weeks = 0;
            for (int week = from; week <= to; week++) {
                makeRow(week);
                if (placeOf(household) >= bakers) {
                    weeks++;
                }
            }
            return weeks;
        }

        int firstWeekAhead(int household, int from, int to) {
            for (int week = from; week <= to; week++) {
                makeRow(week);
                if (row[0] == household) {
                    return week;
                }
            }
            return NONE;
        }

        void makeRow(int week) {
            if (rule == ROUND) {
                goRound(week);
            } else {
                drawLots(week);
            }
            for (int i = 0; i < toldCount; i++) {
                if (toldWeeks[i] == week) {
                    if (gifts[i]) {
                        giveTurn(toldAs[i], toldBs[i]);
                    } else {
                        exchange(placeOf(toldAs[i]), placeOf(toldBs[i]));
                    }
                }
            }
        }

        private void goRound(int week) {
            for (int place = 0; place < size; place++) {
                row[place] = (week + place) % size;
            }
        }

        private void drawLots(int week) {
            for (int place = 0; place < size; place++) {
                row[place] = place;
            }
            long drawn = ((long) seed + week) & 0x7fffffffL;
            for (int k = size - 1; k >= 1; k--) {
                drawn = (1103515245L * drawn + 12345L) & 0x7fffffffL;
                exchange(k, (int) (drawn / 65536 % (k + 1)));
            }
        }

        private int placeOf(int household) {
            int found = 0;
            for (int place = 0; place < size; place++) {
                if (row[place] == household) {
                    found = place;
                }
            }
            return found;
        }

        private void exchange(int placeA, int placeB) {
            int kept = row[placeA];
            row[placeA] = row[placeB];
            row[placeB] = kept;
        }

        private void giveTurn(int giver, int taker) {
            int from = placeOf(taker);
            int to = placeOf(giver);
            for (int place = from; place < to; place++) {
                row[place] = row[place + 1];
            }
            for (int place = from; place > to; place--) {
                row[place] = row[place - 1];
            }
            row[to] = taker;
        }
    }

    /** The weeks' notes, new bricks, and what explains the notes best. */
    private static final class Book {
        final int[] notes = new int[WEEKS * RINGS];
        final int[] brickRings = new int[MOST_BRICKS];
        final int[] brickWeeks = new int[MOST_BRICKS];
        int brickCount;
        int bestSort;
        int bestRing;
        int bestWeek;
        int bestExplained;

        int forget(int week) {
            int known = 0;
            for (int ring = 0; ring < RINGS; ring++) {
                known += notes[week * RINGS + ring] != UNKNOWN ? 1 : 0;
                notes[week * RINGS + ring] = UNKNOWN;
            }
            return known;
        }

        int addBricks(int ring, int week) {
            brickRings[brickCount] = ring;
            brickWeeks[brickCount] = week;
            brickCount++;
            return brickCount;
        }

        int knownNotes() {
            int known = 0;
            for (int i = 0; i < WEEKS * RINGS; i++) {
                known += notes[i] != UNKNOWN ? 1 : 0;
            }
            return known;
        }

        /** What the explanation that nothing is wrong explains. */
        int wellNotes() {
            int well = 0;
            for (int i = 0; i < WEEKS * RINGS; i++) {
                well += notes[i] == NOTE_WELL ? 1 : 0;
            }
            return well;
        }

        /** How many notes more a crack or hot spot explains than that nothing is wrong. */
        int gain(int sort, int ring, int week) {
            int tells = sort == CRACKED ? NOTE_PALE : NOTE_BURNT;
            int end = mendedBehind(ring, week);
            int more = 0;
            for (int w = week; w < end; w++) {
                int v = notes[w * RINGS + ring];
                more += v == tells ? 1 : 0;
                more -= v == NOTE_WELL ? 1 : 0;
            }
            return more;
        }

        void findBest() {
            int well = wellNotes();
            bestSort = ALL_WELL;
            bestRing = NONE;
            bestWeek = NONE;
            bestExplained = well;
            for (int sort = CRACKED; sort <= HOT_SPOT; sort++) {
                for (int ring = 0; ring < RINGS; ring++) {
                    for (int week = 0; week < WEEKS; week++) {
                        keepIfBetter(sort, ring, week, well + gain(sort, ring, week));
                    }
                }
            }
        }

        private void keepIfBetter(int sort, int ring, int week, int explained) {
            if (explained > bestExplained) {
                bestSort = sort;
                bestRing = ring;
                bestWeek = week;
                bestExplained = explained;
            }
        }

        private int mendedBehind(int ring, int week) {
            int end = WEEKS;
            for (int i = 0; i < brickCount; i++) {
                if (brickRings[i] == ring && brickWeeks[i] > week) {
                    end = Math.min(end, brickWeeks[i]);
                }
            }
            return end;
        }
    }
}
