/** The edges that the document names in promises 10 to 16: a sentence, a test. */
public final class BreadEdgesTest {
    private static final int NONE = -1, BAD = -2, NOT = -3, FULL = -4;
    private static final int RAW = 0, GOOD = 1, BURNT = 2, DRY = 3;
    private static final int[] ROOM = {2, 3, 4, 4};
    private static final int TWO_HUNDRED_CALLS = 401;

    public static void main(String[] args) {
        kindBounds();
        kindOfItsLeast();
        kindSpan();
        kindCrown();
        kindsFull();
        secondBounds();
        secondNotTwice();
        secondNotWithLoaves();
        secondBeginsBehindN();
        putBounds();
        putInEachRing();
        putAroundOnes();
        putTwelve();
        putTwoHundred();
        putFirstThatFits();
        moveBounds();
        moveToItsOwn();
        moveOfOneThatIsOut();
        moveWithoutRoom();
        moveIntoAndFromHoles();
        moveWithTwelveInside();
        takeBounds();
        takeOfOneThatIsOut();
        takeFromHoles();
        burntAboveScorched();
        rawBelowLeast();
        dryAboveMost();
        resultsInOrder();
        lookAtTheEdgesOfASpan();
        lookAboveAllSpans();
        doorOpensForOneTick();
        loafBounds();
        loafThatIsOut();
        roomBounds();
        roomLeft();
        Check.finish();
    }

    /** Kinds 0, 1, 2: plain ones of so many places; 3, 4: crowns of 2 and 3. */
    private static void plain(VillageOven x) {
        x.air(40);
        x.kind(1, false, 1, 60, 0, 2000, 0);
        x.kind(2, false, 1, 60, 0, 2000, 0);
        x.kind(3, false, 1, 60, 0, 2000, 0);
        x.kind(2, true, 1, 60, 0, 2000, 0);
        x.kind(3, true, 1, 60, 0, 2000, 0);
    }

    private static VillageOven plainOven() {
        VillageOven x = new VillageOven();
        plain(x);
        return x;
    }

    /** A cold oven with one loaf of a kind of one place in ring 0. */
    private static VillageOven withLoaf(int least, int most, int from, int to, int scorched) {
        VillageOven x = new VillageOven();
        x.air(40);
        x.kind(1, false, least, most, from, to, scorched);
        x.put(0, 0);
        return x;
    }

    private static int bake(int least, int most, int from, int to, int scorched, int ticks) {
        VillageOven x = withLoaf(least, most, from, to, scorched);
        for (int i = 0; i < ticks; i++) {
            x.ticks(1);
        }
        int result = x.take(0);
        Check.due("good ones", x.count(6), result == GOOD ? 1 : 0);
        return result;
    }

    /** "PLACES (1 .. 3)", "LEAST (1 .. 30)", "MOST (.. 60)", "FROM .. TO (0 .. 2000)", "SCORCHED (0 .. 9)". */
    private static void kindBounds() {
        Stories.Story[] stories = {Stories::untouched, Stories::busy, Stories::opened};
        for (Stories.Story story : stories) {
            Twins.bounds("places", story, 1, 3, (x, v) -> x.kind(v, false, 1, 1, 0, 0, 0));
            Twins.bounds("least", story, 1, 30, (x, v) -> x.kind(1, false, v, 60, 0, 0, 0));
            Twins.bounds("most", story, 1, 60, (x, v) -> x.kind(1, false, 1, v, 0, 0, 0));
            Twins.bounds("from", story, 0, 2000, (x, v) -> x.kind(1, false, 1, 1, v, 2000, 0));
            Twins.bounds("to", story, 0, 2000, (x, v) -> x.kind(1, false, 1, 1, 0, v, 0));
            Twins.bounds("scorched", story, 0, 9, (x, v) -> x.kind(1, false, 1, 1, 0, 0, v));
        }
        Twins.unmovedEverywhere("kind: all are out of bounds", x -> x.kind(0, true, 0, 61, -1, 2001, 10), BAD);
    }

    /** "MOST (LEAST .. 60)". */
    private static void kindOfItsLeast() {
        Twins.bounds("most of a least of 17", Stories::untouched, 17, 60, (x, v) -> x.kind(1, false, 17, v, 0, 0, 0));
        Twins.bounds("most of a least of 30", Stories::untouched, 30, 60, (x, v) -> x.kind(1, false, 30, v, 0, 0, 0));
        Twins.bounds("least of a most of 17", Stories::untouched, 1, 17, (x, v) -> x.kind(1, false, v, 17, 0, 0, 0));
    }

    /** "a span of WARMTH FROM .. TO": it may be of one warmth, not of less. */
    private static void kindSpan() {
        Twins.bounds("to of a from of 150", Stories::untouched, 150, 2000, (x, v) -> x.kind(1, false, 1, 1, 150, v, 0));
        Twins.bounds("from of a to of 150", Stories::untouched, 0, 150, (x, v) -> x.kind(1, false, 1, 1, v, 150, 0));
        Twins.bounds("from and to", Stories::untouched, 0, 2000, (x, v) -> x.kind(1, false, 1, 1, v, v, 0));
    }

    /** "a CROWN (of 2 or 3 PLACES)"; "BAD: also a CROWN of 1 PLACE". */
    private static void kindCrown() {
        Twins.unmovedEverywhere("a crown of 1", x -> x.kind(1, true, 1, 1, 0, 0, 0), BAD);
        Twins.bounds("places of a crown", Stories::untouched, 2, 3, (x, v) -> x.kind(v, true, 1, 1, 0, 0, 0));
        VillageOven x = new VillageOven();
        Check.due("a plain one of 1", x.kind(1, false, 1, 1, 0, 0, 0), 0);
        Check.due("a crown of 2", x.kind(2, true, 1, 1, 0, 0, 0), 1);
        Check.due("a crown of 3", x.kind(3, true, 1, 1, 0, 0, 0), 2);
    }

    private static void fillTheKinds(VillageOven x) {
        for (int i = Stories.BUSY_KINDS; i < 8; i++) {
            x.kind(1 + i % 3, i % 3 > 0, 1 + i, 20 + i, 10 * i, 100 * i, i);
        }
    }

    /** "KINDS of bread (8 at most)". */
    private static void kindsFull() {
        VillageOven x = new VillageOven();
        for (int i = 0; i < 8; i++) {
            Check.due("kind " + i, x.kind(1, false, 1, 1, 0, 0, 0), i);
        }
        Check.due("the eighth can be put in", x.put(7, 0), 0);
        Check.due("there is no ninth", x.put(8, 0), BAD);
        Check.due("nor will there be", x.kind(1, false, 1, 1, 0, 0, 0), FULL);
        Stories.Story full = BreadEdgesTest::fillTheKinds;
        Twins.unmovedBehind("a kind too many", full, y -> y.kind(1, false, 1, 1, 0, 0, 0), FULL);
        Twins.unmovedBehind("BAD ahead of FULL", full, y -> y.kind(4, false, 1, 1, 0, 0, 0), BAD);
        Twins.unmovedBehind("BAD ahead of FULL, crown", full, y -> y.kind(1, true, 1, 1, 0, 0, 0), BAD);
        Twins.unmovedBehind("BAD ahead of FULL, scorched", full, y -> y.kind(1, false, 1, 1, 0, 0, 10), BAD);
    }

    /** "behind its first n (1 .. 30) TICKS another span is its". */
    private static void secondBounds() {
        Twins.bounds("kind", BreadEdgesTest::plain, 0, 4, (x, v) -> x.second(v, 1, 0, 0));
        Twins.bounds("n", BreadEdgesTest::plain, 1, 30, (x, v) -> x.second(0, v, 0, 0));
        Twins.bounds("from", BreadEdgesTest::plain, 0, 2000, (x, v) -> x.second(0, 1, v, 2000));
        Twins.bounds("to", BreadEdgesTest::plain, 0, 2000, (x, v) -> x.second(0, 1, 0, v));
        Twins.bounds("to of a from of 150", BreadEdgesTest::plain, 150, 2000, (x, v) -> x.second(0, 1, 150, v));
        Twins.bounds("from of a to of 150", BreadEdgesTest::plain, 0, 150, (x, v) -> x.second(0, 1, v, 150));
        Twins.unmoved("no kinds", Stories::untouched, x -> x.second(0, 1, 0, 0), BAD);
    }

    /** "NOT: it has them already". */
    private static void secondNotTwice() {
        Twins.unmoved("again", Stories::resting, x -> x.second(0, 30, 0, 0), NOT);
        Twins.unmovedWithLoaves("again, loaves of it inside", x -> x.second(0, 30, 0, 0), NOT);
        Twins.unmoved("again the same", Stories::resting, x -> x.second(0, 30, 20, 900), NOT);
        Twins.unmoved("BAD ahead of NOT, n", Stories::resting, x -> x.second(0, 31, 0, 0), BAD);
        Twins.unmoved("BAD ahead of NOT, span", Stories::resting, x -> x.second(0, 1, 1, 0), BAD);
    }

    /** "NOT: .. LOAVES of it are in THE OVEN". */
    private static void secondNotWithLoaves() {
        Twins.unmovedWithLoaves("a loaf of it is inside", x -> x.second(1, 1, 0, 0), NOT);
        Twins.unmovedWithLoaves("BAD ahead of NOT", x -> x.second(1, 0, 0, 0), BAD);
        VillageOven x = plainOven();
        x.put(0, 0);
        x.put(0, 1);
        Check.due("another kind", x.second(1, 1, 0, 0), 1);
        x.take(1);
        Check.due("the first alone is inside", x.second(0, 1, 0, 0), NOT);
        x.put(0, 1);
        x.take(0);
        Check.due("one of two is out", x.second(0, 1, 0, 0), NOT);
        x.take(2);
        Check.due("all are out", x.second(0, 1, 0, 0), 1);
        Check.due("and not again", x.second(0, 1, 0, 0), NOT);
    }

    /** "within its span (of that TICK, the first being 1)": the last tick of the first heat, the first of the second. */
    private static void secondBeginsBehindN() {
        int[] edges = {1, 2, 29, 30};
        for (int n : edges) {
            VillageOven x = new VillageOven();
            x.air(40);
            x.kind(1, false, 1, 60, 0, 2000, 9);
            x.second(0, n, 2000, 2000);
            x.put(0, 0);
            x.ticks(n);
            Check.due("tick " + n + " is of the first heat", x.loaf(0, 3), n);
            Check.due("none is pale", x.loaf(0, 5), 0);
            x.ticks(1);
            Check.due("the next one is of the second", x.loaf(0, 5), 1);
            x.ticks(1);
            Check.due("and so is the next", x.loaf(0, 5), 2);
            Check.due("right ones stay", x.loaf(0, 3), n);
        }
    }

    /** "BAD (no such RING, .. KIND ..)". */
    private static void putBounds() {
        Twins.bounds("put of a kind", BreadEdgesTest::plain, 0, 4, (x, v) -> x.put(v, 1));
        Twins.bounds("put in a ring", BreadEdgesTest::plain, 0, 3, (x, v) -> x.put(0, v));
        Twins.bounds("put, busy", Stories::busy, 0, 3, (x, v) -> x.put(v, 1));
        Twins.unmovedEverywhere("put: both are out of bounds", x -> x.put(8, 4), BAD);
    }

    private static int howManyFit(int kind, int ring) {
        VillageOven x = plainOven();
        for (int i = 0; i < 9; i++) {
            int answer = x.put(kind, ring);
            if (answer != i) {
                Check.due("no room", answer, NOT);
                Check.due("so many are inside", x.count(1), i);
                return i;
            }
        }
        return 9;
    }

    /** "with ROOM for 2, 3, 4, 4"; "NOT: there is no ROOM". */
    private static void putInEachRing() {
        int[][] want = {{2, 3, 4, 4}, {1, 1, 2, 2}, {0, 1, 1, 1}, {1, 1, 2, 2}, {0, 1, 1, 1}};
        for (int kind = 0; kind < 5; kind++) {
            for (int ring = 0; ring < 4; ring++) {
                Check.due("kind " + kind + " in ring " + ring, howManyFit(kind, ring), want[kind][ring]);
            }
        }
        for (int ring = 0; ring < 4; ring++) {
            int r = ring;
            Stories.Story full = x -> {
                plain(x);
                for (int i = 0; i < ROOM[r]; i++) {
                    x.put(0, r);
                }
                x.ticks(1);
            };
            Twins.unmoved("ring " + ring + " is full", full, x -> x.put(0, r), NOT);
            Twins.unmoved("a crown in full ring " + ring, full, x -> x.put(3, r), NOT);
        }
    }

    /** "In a CROWN one LOAF of 1 PLACE may stand and takes no ROOM". */
    private static void putAroundOnes() {
        VillageOven x = plainOven();
        Check.due("one in ring 0", x.put(0, 0), 0);
        Check.due("no plain one of 2 beside it", x.put(1, 0), NOT);
        Check.due("but a crown of 2 around it", x.put(3, 0), 1);
        Check.due("no second one", x.put(0, 0), NOT);
        Check.due("a crown of 3 fills ring 1", x.put(4, 1), 2);
        Check.due("no loaf of 2 in its hole", x.put(1, 1), NOT);
        Check.due("one in its hole", x.put(0, 1), 3);
        Check.due("only one", x.put(0, 1), NOT);
        Check.due("two crowns in ring 2", x.put(3, 2), 4);
        Check.due("two crowns in ring 2", x.put(3, 2), 5);
        Check.due("one in each", x.put(0, 2), 6);
        Check.due("one in each", x.put(0, 2), 7);
        Check.due("no third", x.put(0, 2), NOT);
        Check.due("a crown of 3 in ring 3", x.put(4, 3), 8);
        Check.due("one in it", x.put(0, 3), 9);
        Check.due("one beside it", x.put(0, 3), 10);
        Check.due("no third there", x.put(0, 3), NOT);
        VillageOven y = plainOven();
        y.put(0, 0);
        y.put(0, 0);
        Check.due("no crown around two", y.put(3, 0), NOT);
        Check.due("a plain one of 3 has no hole", y.put(2, 1), 2);
        Check.due("a plain one of 3 has no hole", y.put(0, 1), NOT);
    }

    private static void twelve(VillageOven x) {
        plain(x);
        for (int i = 0; i < 12; i++) {
            x.put(0, i < 4 ? 3 : i < 8 ? 2 : i < 11 ? 1 : 0);
        }
        x.ticks(1);
    }

    /** Twelve ones, with room for one in ring 0, in an oven with much else to it. */
    private static void twelveAndMuchElse(VillageOven x) {
        Stories.busy(x);
        for (int loaf = 2; loaf < 6; loaf++) {
            x.take(loaf);
        }
        for (int i = 0; i < 12; i++) {
            x.put(3, i < 4 ? 3 : i < 8 ? 2 : i < 11 ? 1 : 0);
        }
        x.ticks(1);
    }

    /** "FULL: 12 in THE OVEN". */
    private static void putTwelve() {
        Stories.Story story = BreadEdgesTest::twelveAndMuchElse;
        Twins.unmoved("the thirteenth", story, x -> x.put(0, 0), FULL);
        Twins.unmoved("no room for it: NOT ahead of FULL", story, x -> x.put(0, 3), NOT);
        Twins.unmoved("no room for a big one", story, x -> x.put(2, 0), NOT);
        Twins.unmoved("room for a crown around the one: FULL", story, x -> x.put(1, 0), FULL);
        Twins.unmoved("no such kind: BAD ahead of FULL", story, x -> x.put(4, 0), BAD);
        Twins.unmoved("no such ring: BAD ahead of NOT", story, x -> x.put(0, 4), BAD);
        VillageOven x = new VillageOven();
        twelve(x);
        Check.due("twelve are inside", x.count(1), 12);
        x.take(5);
        Check.due("eleven, so one more", x.put(0, 0), 12);
        Check.due("twelve again", x.put(0, 2), FULL);
    }

    private static void twoHundred(VillageOven x) {
        x.kind(1, false, 1, 1, 0, 0, 0);
        for (int i = 0; i < 200; i++) {
            x.put(0, 3);
            x.take(i);
        }
    }

    private static void twoHundredWithSome(VillageOven x) {
        x.kind(1, false, 1, 1, 0, 0, 0);
        for (int i = 0; i < 200; i++) {
            x.put(0, i < 196 ? 0 : 3);
            if (i < 196) {
                x.take(i);
            }
        }
    }

    /** "FULL: .. or 200 in all". */
    private static void putTwoHundred() {
        VillageOven x = new VillageOven();
        x.kind(1, false, 1, 1, 0, 0, 0);
        for (int i = 0; i < 199; i++) {
            x.put(0, 0);
            x.take(i);
        }
        Check.due("the last of 200", x.put(0, 0), 199);
        Check.due("it can be moved", x.move(199, 1), 0);
        Check.due("it can be taken", x.take(199), RAW);
        Twins.unmoved("one more", BreadEdgesTest::twoHundred, TWO_HUNDRED_CALLS, y -> y.put(0, 0), FULL);
        Twins.unmoved("BAD ahead of FULL", BreadEdgesTest::twoHundred, TWO_HUNDRED_CALLS, y -> y.put(1, 0), BAD);
        Twins.unmoved("some are inside", BreadEdgesTest::twoHundredWithSome, TWO_HUNDRED_CALLS, y -> y.put(0, 0), FULL);
        Twins.unmoved("NOT ahead of FULL", BreadEdgesTest::twoHundredWithSome, TWO_HUNDRED_CALLS, y -> y.put(0, 3), NOT);
        Twins.unmoved("no loaf 200", BreadEdgesTest::twoHundred, TWO_HUNDRED_CALLS, y -> y.loaf(200, 0), BAD);
        Twins.unmoved("loaf 199", BreadEdgesTest::twoHundred, TWO_HUNDRED_CALLS, y -> y.loaf(199, 0), 0);
        Twins.unmoved("no loaf 200 to take", BreadEdgesTest::twoHundred, TWO_HUNDRED_CALLS, y -> y.take(200), BAD);
    }

    /** "the first that fits: BAD .., NOT .., FULL". */
    private static void putFirstThatFits() {
        Twins.unmoved("no such ring, nor room for it", BreadEdgesTest::plain, x -> x.put(2, 4), BAD);
        Twins.unmoved("never room for three in ring 0", BreadEdgesTest::plain, x -> x.put(2, 0), NOT);
        Twins.unmoved("nor for a crown of three", BreadEdgesTest::plain, x -> x.put(4, 0), NOT);
        Twins.unmovedWithLoaves("a crown of three in ring 0", x -> x.put(2, 0), NOT);
        Twins.unmovedWithLoaves("a second one in ring 3", x -> x.put(2, 3), NOT);
    }

    /** "BAD (no such RING, .. LOAF ..)". */
    private static void moveBounds() {
        Stories.Story three = x -> {
            plain(x);
            x.put(0, 0);
            x.put(0, 2);
            x.put(0, 1);
            x.ticks(1);
        };
        Twins.bounds("move of a loaf", three, 0, 2, (x, v) -> x.move(v, 3));
        Twins.bounds("move to a ring", three, 0, 3, (x, v) -> x.move(2, v));
        Twins.unmovedEverywhere("move: both are out of bounds", x -> x.move(200, 4), BAD);
    }

    /** "BAD: also to its own". */
    private static void moveToItsOwn() {
        int[] rings = {0, 2, 2, 3};
        for (int i = 0; i < 4; i++) {
            int loaf = i + 2;
            int ring = rings[i];
            Twins.unmoved("loaf " + loaf + " to its own", Stories::busy, x -> x.move(loaf, ring), BAD);
        }
        VillageOven x = plainOven();
        x.put(0, 2);
        Check.due("from which", x.move(0, 1), 2);
        Check.due("its own is now 1", x.move(0, 1), BAD);
        Check.due("2 is another", x.move(0, 2), 1);
    }

    /** "NOT: it is out". */
    private static void moveOfOneThatIsOut() {
        for (int ring = 0; ring < 4; ring++) {
            int r = ring;
            Twins.unmoved("out, to ring " + ring, Stories::resting, x -> x.move(0, r), NOT);
            Twins.unmovedWithLoaves("out, others inside, to ring " + ring, x -> x.move(1, r), NOT);
        }
        Twins.unmoved("out, BAD ahead of NOT", Stories::resting, x -> x.move(0, 4), BAD);
        Twins.unmoved("out, no such ring as NONE", Stories::resting, x -> x.move(0, NONE), BAD);
    }

    /** "NOT: .. there is no ROOM there". */
    private static void moveWithoutRoom() {
        Stories.Story full = x -> {
            plain(x);
            x.put(1, 0);
            x.put(0, 1);
            x.put(0, 1);
            x.put(2, 3);
            x.put(0, 2);
            x.ticks(1);
        };
        Twins.unmoved("ring 0 is full", full, x -> x.move(1, 0), NOT);
        Twins.unmoved("one place is too few for two", full, x -> x.move(0, 1), NOT);
        Twins.unmoved("three never fit in ring 0", full, x -> x.move(3, 0), NOT);
        Twins.unmoved("one place in ring 3 is too few for two", full, x -> x.move(0, 3), NOT);
        Twins.unmoved("BAD ahead of NOT", full, x -> x.move(3, 3), BAD);
        Twins.unmovedWithLoaves("no room in ring 0 for a crown of 3", x -> x.move(5, 0), NOT);
        VillageOven x = new VillageOven();
        full.tell(x);
        Check.due("one place in ring 1 is enough for one", x.move(4, 1), 2);
        Check.due("ring 1 is full", x.room(1), 0);
        Check.due("three places in ring 2 are enough for three", x.move(3, 2), 3);
        Check.due("and one is left", x.room(2), 1);
    }

    /** "the one that stands in its hole would have none here": a crown that goes leaves room for it. */
    private static void moveIntoAndFromHoles() {
        VillageOven x = plainOven();
        x.put(3, 0);
        x.put(0, 0);
        x.put(0, 1);
        Check.due("the hole is taken", x.move(2, 0), NOT);
        Check.due("the crown goes around the other one", x.move(0, 1), 0);
        Check.due("the one it left takes room", x.room(0), 1);
        Check.due("the one it found takes none", x.room(1), 1);
        Check.due("beside the crown", x.move(1, 1), 0);
        Check.due("ring 1 is full", x.room(1), 0);
        Check.due("a full ring around its two ones", x.move(0, 0), 1);
        Check.due("two ones", x.room(1), 1);
        Check.due("one goes into the hole of a full ring", x.move(2, 0), 1);
        Check.due("ring 0 is as full as before", x.room(0), 0);
    }

    /** 12 are the most that are inside, not the most that may be moved. */
    private static void moveWithTwelveInside() {
        VillageOven x = new VillageOven();
        twelve(x);
        Check.due("moved", x.move(0, 0), 3);
        Check.due("twelve inside", x.count(1), 12);
        Check.due("its age goes with it", x.loaf(0, 2), 1);
        Check.due("room behind it", x.room(3), 1);
    }

    /** "BAD; NOT: it is out". */
    private static void takeBounds() {
        Stories.Story three = x -> {
            plain(x);
            x.put(0, 0);
            x.put(3, 2);
            x.put(0, 2);
            x.ticks(1);
        };
        Twins.bounds("take", three, 0, 2, VillageOven::take);
        Twins.unmovedEverywhere("take(200)", x -> x.take(200), BAD);
    }

    private static void takeOfOneThatIsOut() {
        Twins.unmoved("out", Stories::resting, x -> x.take(0), NOT);
        Twins.unmoved("out", Stories::resting, x -> x.take(1), NOT);
        Twins.unmovedWithLoaves("out, others inside", x -> x.take(1), NOT);
    }

    /** "without it others would have no ROOM": a crown that is taken leaves room for the one in its hole. */
    private static void takeFromHoles() {
        for (int kind = 3; kind <= 4; kind++) {
            for (int ring = kind - 3; ring < 4; ring++) {
                VillageOven x = plainOven();
                x.put(kind, ring);
                int ones = 0;
                while (x.put(0, ring) >= 0) {
                    ones++;
                }
                Check.due("full", x.room(ring), 0);
                Check.due("taken around it", x.take(0), RAW);
                Check.due("each of the others takes one", x.room(ring), ROOM[ring] - ones);
            }
        }
        VillageOven x = plainOven();
        x.put(3, 0);
        x.put(0, 0);
        Check.due("out of the hole", x.take(1), RAW);
        Check.due("the crown stands as before", x.room(0), 0);
        Check.due("its hole is free", x.put(0, 0), 2);
    }

    /** "BURNT, if it was SCORCHED more often than its KIND may": as often is not more often. */
    private static void burntAboveScorched() {
        for (int may = 0; may <= 9; may++) {
            Check.due("as often as it may", bake(1, 60, 0, 0, may, may), RAW);
            Check.due("once more", bake(1, 60, 0, 0, may, may + 1), BURNT);
        }
    }

    /** "RAW, if it was RIGHT less than LEAST times". */
    private static void rawBelowLeast() {
        int[] leasts = {1, 2, 29, 30};
        for (int least : leasts) {
            Check.due("one too few", bake(least, 60, 0, 2000, 0, least - 1), RAW);
            Check.due("just enough", bake(least, 60, 0, 2000, 0, least), GOOD);
        }
    }

    /** "DRY, if it is older than MOST". */
    private static void dryAboveMost() {
        int[] mosts = {1, 2, 59, 60};
        for (int most : mosts) {
            Check.due("as old", bake(1, most, 0, 2000, 0, most), GOOD);
            Check.due("older", bake(1, most, 0, 2000, 0, most + 1), DRY);
        }
    }

    /** "BURNT ..; else RAW ..; else DRY ..; else GOOD". */
    private static void resultsInOrder() {
        Check.due("burnt, raw and dry: burnt", bake(2, 2, 0, 0, 2, 3), BURNT);
        Check.due("raw and dry: raw", bake(2, 2, 2000, 2000, 0, 3), RAW);
        Check.due("just put in: raw", bake(1, 1, 0, 2000, 0, 0), RAW);
        VillageOven x = withLoaf(1, 1, 0, 2000, 0);
        x.ticks(2);
        Check.due("right often enough, and too old: dry", x.take(0), DRY);
        Check.due("a dry one is none of the good", x.count(6), 0);
        VillageOven y = new VillageOven();
        y.air(40);
        y.kind(1, false, 1, 1, 0, 2000, 0);
        y.second(0, 1, 0, 0);
        y.put(0, 0);
        y.ticks(2);
        Check.due("right, scorched and too old: burnt", y.take(0), BURNT);
    }

    private static int looks(int from, int to, int what) {
        VillageOven x = withLoaf(1, 60, from, to, 9);
        x.ticks(1);
        return x.loaf(0, what);
    }

    /** "RIGHT, if within its span .., SCORCHED above, else PALE": the loaf takes 15 of 100, so its ring is at 8. */
    private static void lookAtTheEdgesOfASpan() {
        Check.due("within a span of one", looks(8, 8, 3), 1);
        Check.due("at FROM", looks(8, 9, 3), 1);
        Check.due("at TO", looks(7, 8, 3), 1);
        Check.due("below FROM", looks(9, 9, 5), 1);
        Check.due("below FROM is not right", looks(9, 9, 3), 0);
        Check.due("above TO", looks(7, 7, 4), 1);
        Check.due("above TO is not right", looks(7, 7, 3), 0);
        VillageOven x = new VillageOven();
        x.air(40);
        x.kind(1, false, 1, 60, 0, 0, 9);
        for (int i = 0; i < 4; i++) {
            x.put(0, 3);
        }
        x.ticks(2);
        Check.due("100, then 40: scorched at 4", x.loaf(0, 4), 1);
        Check.due("57, then none: right at 0", x.loaf(0, 3), 1);
    }

    /** No span goes above 2000, but the lining does. */
    private static void lookAboveAllSpans() {
        VillageOven x = new VillageOven();
        x.kind(1, false, 1, 60, 0, 2000, 9);
        for (int i = 0; i < 10; i++) {
            x.log(50, 0);
        }
        x.ticks(8);
        x.put(0, 0);
        x.ticks(1);
        Check.holds("above 2000", x.heat(0, 0, 1) > 2000);
        Check.due("scorched", x.loaf(0, 4), 1);
    }

    private static void openOrShut(String where, VillageOven x, boolean open) {
        x.air(0);
        for (int ring = 0; ring < 4; ring++) {
            Check.due(where + ": still even", x.heat(ring, 0, 0), 100);
        }
        x.ticks(1);
        Check.due(where + ": skins, and the door", x.sum(2), open ? 110 : 40);
    }

    /** A loaf was put in a tick ago, so the door is shut again; all that was lost is still to come. */
    private static VillageOven openedOnce() {
        VillageOven x = plainOven();
        x.put(0, 0);
        x.ticks(1);
        x.air(0);
        return x;
    }

    /** "When one is put in, moved or taken out, the DOOR is OPEN in the next TICK." */
    private static void doorOpensForOneTick() {
        VillageOven put = plainOven();
        put.put(0, 0);
        openOrShut("put", put, true);
        VillageOven twice = plainOven();
        twice.put(0, 0);
        twice.move(0, 1);
        twice.put(0, 0);
        twice.take(0);
        openOrShut("opened often, it is open once", twice, true);
        VillageOven moved = openedOnce();
        moved.move(0, 1);
        moved.ticks(1);
        Check.due("moved: skins 40, door 9, 20 and 40", moved.sum(2), 109);
        VillageOven taken = openedOnce();
        taken.take(0);
        taken.ticks(1);
        Check.due("taken: skins 40, door 9, 20 and 40", taken.sum(2), 109);
        VillageOven left = openedOnce();
        left.ticks(1);
        Check.due("left alone: skins", left.sum(2), 40);
        VillageOven refused = plainOven();
        refused.put(5, 0);
        refused.put(2, 0);
        refused.move(0, 0);
        refused.take(0);
        openOrShut("refused", refused, false);
        VillageOven looked = plainOven();
        looked.opening(0);
        looked.order(0);
        looked.plan();
        looked.last(0);
        looked.wood(0, 0, 0, 1, 0);
        openOrShut("an opening that is told opens nothing", looked, false);
    }

    /** "Of a LOAF: 0 KIND, .. 5 PALE TICKS. BAD." */
    private static void loafBounds() {
        Twins.bounds("loaf", Stories::busy, 0, 5, (x, v) -> x.loaf(v, 0));
        Twins.bounds("loaf, open", Stories::opened, 0, 5, (x, v) -> x.loaf(v, 5));
        Twins.bounds("of a loaf", Stories::busy, 0, 5, (x, v) -> x.loaf(3, v));
        Twins.bounds("of a loaf, open", Stories::opened, 0, 5, (x, v) -> x.loaf(3, v));
        Twins.bounds("of a loaf that is out", Stories::busy, 0, 5, (x, v) -> x.loaf(0, v));
        Twins.unmovedEverywhere("loaf: both are out of bounds", x -> x.loaf(-1, 6), BAD);
        Twins.unmoved("loaf only looks", Stories::busy, x -> x.loaf(3, 1), 2);
    }

    /** "NONE: it is out"; what was seen of it stays. */
    private static void loafThatIsOut() {
        VillageOven x = plainOven();
        x.put(0, 3);
        Check.due("in its ring", x.loaf(0, 1), 3);
        Check.due("no tick old", x.loaf(0, 2), 0);
        x.ticks(5);
        x.take(0);
        x.ticks(5);
        int[] want = {0, NONE, 5, 5, 0, 0};
        for (int what = 0; what < 6; what++) {
            Check.due("loaf(0, " + what + ")", x.loaf(0, what), want[what]);
        }
        Check.due("the next has the next number", x.put(0, 3), 1);
        Check.due("and begins anew", x.loaf(1, 2), 0);
    }

    /** "How much ROOM is left in a RING ..  BAD." */
    private static void roomBounds() {
        Twins.bounds("room", Stories::untouched, 0, 3, VillageOven::room);
        Twins.bounds("room, busy", Stories::busy, 0, 3, VillageOven::room);
        Twins.bounds("room, open", Stories::opened, 0, 3, VillageOven::room);
        for (int ring = 0; ring < 4; ring++) {
            int r = ring;
            Twins.unmoved("room(" + ring + ") of an empty one", Stories::untouched, x -> x.room(r), ROOM[ring]);
        }
    }

    /** From empty to full, and with a hole. */
    private static void roomLeft() {
        for (int ring = 0; ring < 4; ring++) {
            VillageOven x = plainOven();
            for (int i = 1; i <= ROOM[ring]; i++) {
                x.put(0, ring);
                Check.due("ones in ring " + ring, x.room(ring), ROOM[ring] - i);
            }
            x.put(0, ring);
            Check.due("full", x.room(ring), 0);
        }
        VillageOven y = plainOven();
        y.put(3, 3);
        Check.due("a crown of 2", y.room(3), 2);
        y.put(0, 3);
        Check.due("one in it takes none", y.room(3), 2);
        y.put(0, 3);
        Check.due("one beside it", y.room(3), 1);
        y.take(0);
        Check.due("the crown is out", y.room(3), 2);
    }
}
