/** The edges that the document names in promises 1 to 9 and in the six steps of a tick: a sentence, a test. */
public final class OvenEdgesTest {
    private static final int BAD = -2, FULL = -4;

    public static void main(String[] args) {
        newOvenIsEmpty();
        airBounds();
        airAtFirst();
        dampBounds();
        dampOfEachRing();
        crackBounds();
        crackOfEachRing();
        fireBounds();
        fireInEachRing();
        logBounds();
        logsFull();
        ticksBounds();
        ticksTellLogsLeft();
        heatBounds();
        heatsAtFirst();
        sumBounds();
        warmthIsCut();
        noLogBurnsNothing();
        firstLogBurnsFirst();
        leastAndMostLog();
        whatALogBringsIsCut();
        restOfRingZeroStaysThere();
        dryingBeginsAtNinety();
        dryingGoesByFours();
        dryingNotMoreThanDamp();
        dryRingLosesNothing();
        eachRingDriesByItsOwnLining();
        soakingTheOtherWay();
        crackInSoaking();
        evenOvenStaysEven();
        lossOfSkinByAir();
        lossOfSkinByCrack();
        lossAtTheDoor();
        noLossAtTheDoorToWarmerAir();
        breadTakesWhatThereIs();
        sumsBalance();
        Check.finish();
    }

    private static void linings(String where, VillageOven x, long r0, long r1, long r2, long r3) {
        long[] want = {r0, r1, r2, r3};
        for (int ring = 0; ring < 4; ring++) {
            Check.due(where + ": lining of ring " + ring, x.heat(ring, 0, 0), want[ring]);
        }
    }

    /** "A cold OVEN, no KINDS, four HOUSEHOLDS": what is asked of nothing. */
    private static void newOvenIsEmpty() {
        Twins.unmoved("no kind to put", Stories::untouched, x -> x.put(0, 0), BAD);
        Twins.unmoved("no kind to have two heats", Stories::untouched, x -> x.second(0, 1, 0, 0), BAD);
        Twins.unmoved("no kind to order", Stories::untouched, x -> x.order(0), BAD);
        Twins.unmoved("no loaf to move", Stories::untouched, x -> x.move(0, 1), BAD);
        Twins.unmoved("no loaf to take", Stories::untouched, x -> x.take(0), BAD);
        Twins.unmoved("no loaf to ask of", Stories::untouched, x -> x.loaf(0, 0), BAD);
        Twins.unmoved("no order to ask of", Stories::untouched, x -> x.planned(0, 0), BAD);
        Twins.unmoved("an empty plan", Stories::untouched, x -> x.plan(), 0);
        Twins.unmoved("nothing to clear", Stories::untouched, x -> x.clear(), 0);
        Twins.unmoved("the fourth household", Stories::untouched, x -> x.at(0, 3), 3);
        Twins.unmoved("no fifth household", Stories::untouched, x -> x.at(0, 4), BAD);
        Twins.unmoved("nothing to lose", Stories::untouched, x -> x.lose(0), 0);
        for (int what = 0; what < 9; what++) {
            int asked = what;
            Twins.unmoved("count(" + what + ")", Stories::untouched, x -> x.count(asked), 0);
        }
    }

    /** "AIR (0 .. 40 ..)". */
    private static void airBounds() {
        Twins.bounds("air", Stories::untouched, 0, 40, VillageOven::air);
        Twins.bounds("air, busy", Stories::busy, 0, 40, VillageOven::air);
        Twins.bounds("air, open", Stories::opened, 0, 40, VillageOven::air);
    }

    /** "10 at first"; "AIR: which it was". */
    private static void airAtFirst() {
        VillageOven x = new VillageOven();
        Check.due("air at first", x.air(0), 10);
        Check.due("0 was taken", x.air(40), 0);
        Check.due("40 was taken", x.air(40), 40);
        Check.due("41 is refused", x.air(41), BAD);
        Check.due("-1 is refused", x.air(-1), BAD);
        Check.due("40 it stayed", x.air(10), 40);
    }

    /** "A RING may be DAMP (0 .. 1000 ..)". */
    private static void dampBounds() {
        Twins.bounds("damp of 0", Stories::untouched, 0, 1000, (x, v) -> x.damp(0, v));
        Twins.bounds("damp of 3", Stories::busy, 0, 1000, (x, v) -> x.damp(3, v));
        Twins.bounds("damp in a ring", Stories::untouched, 0, 3, (x, v) -> x.damp(v, 1));
        Twins.bounds("damp in a ring, busy", Stories::busy, 0, 3, (x, v) -> x.damp(v, 1000));
        Twins.unmovedEverywhere("damp: both are out of bounds", x -> x.damp(4, 1001), BAD);
    }

    private static void dampOfEachRing() {
        VillageOven x = new VillageOven();
        for (int ring = 0; ring < 4; ring++) {
            Check.due("dry at first", x.damp(ring, 1000 - ring), 0);
        }
        for (int ring = 0; ring < 4; ring++) {
            Check.due("each its own", x.damp(ring, 0), 1000 - ring);
        }
    }

    /** "and has a CRACK (0 .. 4 ..)". */
    private static void crackBounds() {
        Twins.bounds("crack of 0", Stories::untouched, 0, 4, (x, v) -> x.crack(0, v));
        Twins.bounds("crack of 3", Stories::busy, 0, 4, (x, v) -> x.crack(3, v));
        Twins.bounds("crack in a ring", Stories::untouched, 0, 3, (x, v) -> x.crack(v, 1));
        Twins.bounds("crack in a ring, busy", Stories::busy, 0, 3, (x, v) -> x.crack(v, 4));
        Twins.unmovedEverywhere("crack: both are out of bounds", x -> x.crack(-1, -1), BAD);
    }

    private static void crackOfEachRing() {
        VillageOven x = new VillageOven();
        for (int ring = 0; ring < 4; ring++) {
            Check.due("whole at first", x.crack(ring, 4 - ring), 0);
        }
        for (int ring = 0; ring < 4; ring++) {
            Check.due("each its own", x.crack(ring, 0), 4 - ring);
        }
    }

    /** "THE FIRE is in a RING (0 .. 2 ..)": not at the door. */
    private static void fireBounds() {
        Twins.bounds("fire", Stories::untouched, 0, 2, VillageOven::fire);
        Twins.bounds("fire, busy", Stories::busy, 0, 2, VillageOven::fire);
        Twins.bounds("fire, open", Stories::opened, 0, 2, VillageOven::fire);
    }

    private static void fireInEachRing() {
        VillageOven x = new VillageOven();
        Check.due("in 0 at first", x.fire(2), 0);
        Check.due("3 is refused", x.fire(3), BAD);
        Check.due("it was in 2", x.fire(1), 2);
        Check.due("it was in 1", x.fire(0), 1);
    }

    /** "each with a SIZE (1 .. 50) and WATER (0 .. 60)". */
    private static void logBounds() {
        Twins.bounds("size", Stories::untouched, 1, 50, (x, v) -> x.log(v, 0));
        Twins.bounds("size, busy", Stories::busy, 1, 50, (x, v) -> x.log(v, 60));
        Twins.bounds("water", Stories::untouched, 0, 60, (x, v) -> x.log(1, v));
        Twins.bounds("water, busy", Stories::busy, 0, 60, (x, v) -> x.log(50, v));
        Twins.unmovedEverywhere("log: both are out of bounds", x -> x.log(0, 61), BAD);
    }

    private static void fillTheFire(VillageOven x) {
        for (int i = Stories.BUSY_LOGS; i < 30; i++) {
            x.log(1 + i, 2 * i);
        }
    }

    private static void thirtyLogs(VillageOven x) {
        for (int i = 0; i < 30; i++) {
            x.log(1 + i, 2 * i);
        }
    }

    /** "LOGS (30 at most)"; "A LOG more: how many. BAD; FULL." */
    private static void logsFull() {
        VillageOven x = new VillageOven();
        for (int i = 1; i <= 30; i++) {
            Check.due("log " + i, x.log(1, 0), i);
        }
        Twins.unmovedBehind("a log too many", OvenEdgesTest::fillTheFire, x1 -> x1.log(50, 0), FULL);
        Twins.unmovedBehind("BAD ahead of FULL, by size", OvenEdgesTest::fillTheFire, x1 -> x1.log(51, 0), BAD);
        Twins.unmovedBehind("BAD ahead of FULL, by water", OvenEdgesTest::fillTheFire, x1 -> x1.log(50, 61), BAD);
        Check.due("one burns", x.ticks(1), 29);
        Check.due("one more again", x.log(1, 0), 30);
        Check.due("and no more", x.log(1, 0), FULL);
    }

    /** "n TICKS (1 .. 60)". */
    private static void ticksBounds() {
        Twins.bounds("ticks", Stories::untouched, 1, 60, VillageOven::ticks);
        Twins.bounds("ticks, resting", Stories::resting, 1, 60, VillageOven::ticks);
        Twins.bounds("ticks, busy", Stories::busy, 1, 60, VillageOven::ticks);
        Twins.bounds("ticks, open", Stories::opened, 1, 60, VillageOven::ticks);
        VillageOven x = new VillageOven();
        x.ticks(1);
        x.ticks(60);
        x.ticks(61);
        x.ticks(0);
        Check.due("61 ticks went by", x.count(5), 61);
    }

    /** "how many LOGS are left": with some, with one, with none. */
    private static void ticksTellLogsLeft() {
        VillageOven x = new VillageOven();
        Check.due("none were there", x.ticks(1), 0);
        thirtyLogs(x);
        Check.due("one is left", x.ticks(29), 1);
        Check.due("none is left", x.ticks(1), 0);
        Check.due("none is left still", x.ticks(1), 0);
        thirtyLogs(x);
        Check.due("more ticks than logs", x.ticks(60), 0);
    }

    /** "HEAT (what 0), WARMTH (1) of a LAYER of a RING. -2: BAD." */
    private static void heatBounds() {
        Twins.bounds("heat of a ring", Stories::busy, 0, 3, (x, v) -> (int) x.heat(v, 0, 0));
        Twins.bounds("heat of a layer", Stories::busy, 0, 2, (x, v) -> (int) x.heat(3, v, 1));
        Twins.bounds("heat or warmth", Stories::busy, 0, 1, (x, v) -> (int) x.heat(0, 2, v));
        Twins.unmovedEverywhere("heat: all are out of bounds", x -> x.heat(-1, 3, 2), BAD);
        Twins.unmoved("heat only looks", Stories::untouched, x -> x.heat(3, 2, 0), 600);
        Twins.unmoved("warmth only looks", Stories::untouched, x -> x.heat(3, 2, 1), 10);
    }

    /** "at first each HEAT is 10 times its MASS". */
    private static void heatsAtFirst() {
        VillageOven x = new VillageOven();
        int[] mass = {10, 30, 60};
        for (int i = 0; i < 12; i++) {
            Check.due("heat " + i, x.heat(i / 3, i % 3, 0), 10 * mass[i % 3]);
            Check.due("warmth " + i, x.heat(i / 3, i % 3, 1), 10);
        }
    }

    /** "0 IN, 1 HELD, 2 LOST, 3 GIVEN, 4 HELD at first. -2: BAD." */
    private static void sumBounds() {
        Twins.bounds("sum", Stories::untouched, 0, 4, (x, v) -> (int) x.sum(v));
        Twins.bounds("sum, busy", Stories::busy, 0, 4, (x, v) -> (int) x.sum(v));
        Twins.bounds("sum, open", Stories::opened, 0, 4, (x, v) -> (int) x.sum(v));
        long[] want = {0, 4000, 0, 0, 4000};
        for (int what = 0; what < 5; what++) {
            int asked = what;
            Twins.unmoved("sum(" + what + ") at first", Stories::untouched, x -> x.sum(asked), want[what]);
        }
    }

    /** "its WARMTH is HEAT by MASS, cut". */
    private static void warmthIsCut() {
        VillageOven x = new VillageOven();
        x.air(9);
        x.ticks(1);
        Check.due("skin", x.heat(0, 2, 0), 599);
        Check.due("one less than 10 times 60", x.heat(0, 2, 1), 9);
        x.ticks(1);
        Check.due("skin", x.heat(0, 2, 0), 600);
        Check.due("10 times 60", x.heat(0, 2, 1), 10);
        Check.due("body", x.heat(0, 1, 0), 298);
        Check.due("less than 10 times 30", x.heat(0, 1, 1), 9);
    }

    /** "its first LOG burns, if there is one". */
    private static void noLogBurnsNothing() {
        VillageOven x = new VillageOven();
        x.ticks(60);
        Check.due("nothing came in", x.sum(0), 0);
        Check.due("all is held", x.sum(1), 4000);
        x.log(1, 60);
        x.ticks(60);
        Check.due("one log burns once", x.sum(0), 44);
    }

    /** "its first LOG burns": those laid behind it wait, also when the fire is full. */
    private static void firstLogBurnsFirst() {
        VillageOven x = new VillageOven();
        for (int size = 1; size <= 30; size++) {
            x.log(size, size % 2 == 0 ? 50 : 0);
        }
        long in = 0;
        for (int size = 1; size <= 30; size++) {
            x.ticks(1);
            in += size % 2 == 0 ? 70 * size : 200 * size;
            Check.due("log " + size, x.sum(0), in);
        }
    }

    /** "SIZE times (2000 less 26 WATER), by 10": at the edges of both. */
    private static void leastAndMostLog() {
        int[][] cases = {{1, 0, 200}, {50, 0, 10000}, {1, 60, 44}, {50, 60, 2200}};
        for (int[] c : cases) {
            VillageOven x = new VillageOven();
            x.log(c[0], c[1]);
            x.ticks(1);
            Check.due("log(" + c[0] + ", " + c[1] + ")", x.sum(0), c[2]);
        }
    }

    /** "by 10, cut"; "half of it (cut) ..; of the rest half (cut) ..; what is left ..". */
    private static void whatALogBringsIsCut() {
        VillageOven x = new VillageOven();
        x.fire(1);
        x.log(1, 1);
        x.ticks(1);
        Check.due("197.4, cut", x.sum(0), 197);
        linings("98 here, 49 to the next, 50 to the one before", x, 144, 172, 141, 104);
        VillageOven y = new VillageOven();
        y.fire(2);
        y.log(1, 59);
        y.ticks(1);
        Check.due("46.6, cut", y.sum(0), 46);
        linings("23 here, 11 to the next, 12 to the one before", y, 101, 109, 118, 110);
    }

    /** "in RING 0 to RING 0". */
    private static void restOfRingZeroStaysThere() {
        VillageOven x = new VillageOven();
        x.log(1, 60);
        x.ticks(1);
        linings("44: 22 and 11 here, 11 to the next", x, 125, 111, 100, 100);
        VillageOven y = new VillageOven();
        y.log(1, 1);
        y.ticks(1);
        linings("197: 98 and 50 here, 49 to the next", y, 212, 145, 104, 100);
    }

    private static VillageOven dampAndLog(int damp, int water) {
        VillageOven x = new VillageOven();
        x.damp(0, damp);
        x.log(6, water);
        x.ticks(1);
        return x;
    }

    /** "with LINING at WARMTH W of 90 or more". */
    private static void dryingBeginsAtNinety() {
        Check.due("at 89 none dries", dampAndLog(5, 9).damp(0, 0), 5);
        Check.due("at 89 nothing is lost", dampAndLog(5, 9).sum(2), 0);
        Check.due("at 90 one dries", dampAndLog(5, 8).damp(0, 0), 4);
        Check.due("at 90 25 are lost", dampAndLog(5, 8).sum(2), 25);
    }

    /** "(W less 90) by 4, cut, and 1 more dry". */
    private static void dryingGoesByFours() {
        Check.due("at 93 one dries", dampAndLog(5, 6).damp(0, 0), 4);
        Check.due("at 94 two dry", dampAndLog(5, 5).damp(0, 0), 3);
        Check.due("each takes 25", dampAndLog(5, 5).sum(2), 50);
    }

    /** "not more than are DAMP". */
    private static void dryingNotMoreThanDamp() {
        Check.due("two of three", dampAndLog(3, 5).damp(0, 0), 1);
        Check.due("two of two", dampAndLog(2, 5).damp(0, 0), 0);
        Check.due("two of two take 50", dampAndLog(2, 5).sum(2), 50);
        Check.due("one of one", dampAndLog(1, 5).damp(0, 0), 0);
        Check.due("one of one takes 25", dampAndLog(1, 5).sum(2), 25);
    }

    /** "of a RING that is DAMP". */
    private static void dryRingLosesNothing() {
        Check.due("none is damp", dampAndLog(0, 5).sum(2), 0);
        Check.due("none is damp behind it", dampAndLog(0, 5).damp(0, 0), 0);
        VillageOven x = new VillageOven();
        x.damp(3, 9);
        x.log(6, 5);
        x.ticks(1);
        Check.due("another ring is damp, and cold", x.damp(3, 0), 9);
        Check.due("nothing is lost", x.sum(2), 0);
    }

    private static void eachRingDriesByItsOwnLining() {
        VillageOven x = new VillageOven();
        x.fire(2);
        x.damp(2, 1000);
        x.damp(3, 1);
        x.log(50, 0);
        x.ticks(1);
        Check.due("ring 2 at 510: 106 dry", x.damp(2, 0), 894);
        Check.due("ring 3 at 260: all that are damp", x.damp(3, 0), 0);
        Check.due("25 each", x.sum(2), 25 * 107);
        linings("from their own linings", x, 300, 1888, 2002, 2071);
    }

    /** Four loaves cool the lining of ring 3, so that its body and its skin warm it again. */
    private static VillageOven cooledByBread(int ticks) {
        VillageOven x = new VillageOven();
        x.air(40);
        x.crack(3, 4);
        x.kind(1, false, 1, 60, 0, 2000, 0);
        for (int i = 0; i < 4; i++) {
            x.put(0, 3);
        }
        x.ticks(ticks);
        return x;
    }

    /** "(below 0: the other way)", in soaking and at the sides. */
    private static void soakingTheOtherWay() {
        VillageOven x = cooledByBread(2);
        Check.due("twice 6 from the body", x.heat(3, 1, 0), 288);
        Check.due("5 from the lining of ring 2", x.heat(2, 0, 0), 95);
        VillageOven y = cooledByBread(3);
        Check.due("six times 1 from the cracked skin", y.heat(3, 2, 0), 594);
        Check.due("the body has that, less twice 9", y.heat(3, 1, 0), 276);
        linings("and the sides", y, 100, 99, 90, 0);
    }

    /** "what the BODY is warmer times 2 and CRACK": at the edges of CRACK. */
    private static void crackInSoaking() {
        for (int crack = 0; crack <= 4; crack++) {
            VillageOven x = new VillageOven();
            x.air(9);
            x.crack(1, crack);
            x.ticks(1);
            Check.due("a tick in air one colder", x.heat(1, 2, 0), 600 - 1 - crack);
            x.air(40);
            x.ticks(1);
            Check.due("one warmer, crack " + crack, x.heat(1, 1, 0), 300 - 2 - crack);
            Check.due("the skin has it", x.heat(1, 2, 0), 601);
        }
    }

    /** What is not warmer gives nothing. */
    private static void evenOvenStaysEven() {
        VillageOven x = new VillageOven();
        for (int ring = 0; ring < 4; ring++) {
            x.crack(ring, 4);
            x.damp(ring, 1000);
        }
        x.ticks(60);
        for (int i = 0; i < 12; i++) {
            Check.due("layer " + i, x.heat(i / 3, i % 3, 1), 10);
        }
        Check.due("nothing is lost", x.sum(2), 0);
    }

    /** "from the SKIN what it is warmer than AIR ..; nothing, where it is not warmer". */
    private static void lossOfSkinByAir() {
        long[] want = {40, 36, 4, 0, 0, 0};
        int[] airs = {0, 1, 9, 10, 11, 40};
        for (int i = 0; i < airs.length; i++) {
            VillageOven x = new VillageOven();
            x.air(airs[i]);
            x.ticks(1);
            Check.due("lost in air of " + airs[i], x.sum(2), want[i]);
            Check.due("held in air of " + airs[i], x.sum(1), 4000 - want[i]);
        }
    }

    /** "times 1 and CRACK". */
    private static void lossOfSkinByCrack() {
        for (int crack = 0; crack <= 4; crack++) {
            VillageOven x = new VillageOven();
            x.air(0);
            x.crack(3, crack);
            x.ticks(1);
            Check.due("crack " + crack, x.heat(3, 2, 0), 600 - 10 * (1 + crack));
            Check.due("another ring", x.heat(2, 2, 0), 590);
        }
    }

    private static VillageOven openDoor(int air) {
        VillageOven x = new VillageOven();
        x.air(air);
        x.kind(1, false, 1, 1, 0, 0, 0);
        x.put(0, 0);
        x.take(0);
        x.ticks(1);
        return x;
    }

    /** "if the DOOR is OPEN, from the LINING of RING 3 four times, of RING 2 twice, of RING 1 once". */
    private static void lossAtTheDoor() {
        linings("one colder", openDoor(9), 100, 99, 98, 96);
        linings("ten colder", openDoor(0), 100, 90, 80, 60);
        VillageOven x = openDoor(0);
        long lost = x.sum(2);
        Check.due("skins and door", lost, 40 + 70);
        x.ticks(1);
        Check.due("shut behind one tick: skins alone", x.sum(2) - lost, 4 * 9);
        VillageOven y = new VillageOven();
        y.air(0);
        y.ticks(1);
        linings("never opened", y, 100, 100, 100, 100);
    }

    /** "nothing, where it is not warmer". */
    private static void noLossAtTheDoorToWarmerAir() {
        linings("as warm as air", openDoor(10), 100, 100, 100, 100);
        linings("air one warmer", openDoor(11), 100, 100, 100, 100);
        linings("air much warmer", openDoor(40), 100, 100, 100, 100);
        Check.due("nothing is lost", openDoor(11).sum(2), 0);
    }

    /** "takes 15 .. (what there is, if less); that is GIVEN". */
    private static void breadTakesWhatThereIs() {
        Check.due("four times 15", cooledByBread(1).sum(3), 60);
        Check.due("40 are left", cooledByBread(1).heat(3, 0, 0), 40);
        Check.due("57 there were, for four", cooledByBread(2).sum(3), 60 + 57);
        Check.due("none is left", cooledByBread(2).heat(3, 0, 0), 0);
        Check.due("26 there were", cooledByBread(3).sum(3), 60 + 57 + 26);
        VillageOven none = new VillageOven();
        none.ticks(60);
        Check.due("no loaf, nothing given", none.sum(3), 0);
    }

    /** "HELD are all HEATS together". */
    private static void sumsBalance() {
        VillageOven x = new VillageOven();
        Stories.busy(x);
        for (int i = 0; i < 20; i++) {
            long held = 0;
            for (int k = 0; k < 12; k++) {
                held += x.heat(k / 3, k % 3, 0);
            }
            Check.due("held", x.sum(1), held);
            Check.due("in and at first, or held, lost and given", x.sum(0) + x.sum(4), held + x.sum(2) + x.sum(3));
            x.ticks(1 + i);
        }
    }
}
