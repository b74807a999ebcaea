/** The edges that the document names in promises 24 to 29: a sentence, a test. */
public final class TurnsEdgesTest {
    private static final int NONE = -1, BAD = -2, FULL = -4;

    public static void main(String[] args) {
        householdsBounds();
        householdsForgetWhatWasTold();
        customBounds();
        seedAtItsEdges();
        roundGoesAround();
        lotsAreRows();
        lotsOfTwoAndEight();
        toldBounds();
        toldOneAndItself();
        toldFull();
        toldOfTheFirstAndLastWeek();
        toldInOrder();
        swapOfNeighboursAndEnds();
        giftFromBehind();
        giftFromAhead();
        giftOfTwo();
        slotsBounds();
        slotsAtTheirEdges();
        atBounds();
        waitsBounds();
        waitsInOneWeek();
        waitsFirstWeek();
        Check.finish();
    }

    private static void row(String where, VillageOven x, int week, int... want) {
        for (int place = 0; place < want.length; place++) {
            Check.due(where + ": week " + week + ", place " + place, x.at(week, place), want[place]);
        }
        Check.due(where + ": no place behind the last", x.at(week, want.length), BAD);
    }

    /** "HOUSEHOLDS are 0 .. n - 1 (n 2 .. 8; 4 at first)". */
    private static void householdsBounds() {
        Twins.bounds("households", Stories::untouched, 2, 8, VillageOven::households);
        Twins.bounds("households, busy", Stories::busy, 2, 8, VillageOven::households);
        Twins.bounds("households, open", Stories::opened, 2, 8, VillageOven::households);
        VillageOven x = new VillageOven();
        Check.due("four at first", x.households(8), 4);
        Check.due("the last of eight", x.at(0, 7), 7);
        Check.due("no ninth", x.at(0, 8), BAD);
        Check.due("eight there were", x.households(2), 8);
        Check.due("the last of two", x.at(0, 1), 1);
        Check.due("no third", x.at(0, 2), BAD);
        Check.due("one is too few", x.households(1), BAD);
        Check.due("nine are too many", x.households(9), BAD);
        Check.due("two there were still", x.households(2), 2);
    }

    /** "nothing is told for WEEKS any more": also by as many as there were; not by a refused call. */
    private static void householdsForgetWhatWasTold() {
        VillageOven x = new VillageOven();
        x.told(2, 0, 3, false);
        x.households(9);
        Check.due("refused: still told", x.count(8), 1);
        row("swapped", x, 2, 2, 0, 3, 1);
        Check.due("as many as there were", x.households(4), 4);
        Check.due("nothing is told", x.count(8), 0);
        row("as by custom", x, 2, 2, 3, 0, 1);
        for (int i = 0; i < 30; i++) {
            x.told(2, 0, 3, true);
        }
        Check.due("full", x.told(2, 0, 3, true), FULL);
        x.households(5);
        Check.due("no more full", x.told(2, 0, 4, false), 1);
        Check.due("one", x.count(8), 1);
    }

    /** "Custom (0, 1), SEED (0 .. 2147483647): 1. BAD." */
    private static void customBounds() {
        Twins.bounds("custom", Stories::untouched, 0, 1, (x, v) -> x.custom(v, 7));
        Twins.bounds("custom, busy", Stories::busy, 0, 1, (x, v) -> x.custom(v, 7));
        Twins.bounds("seed", Stories::untouched, 0, 2147483647, (x, v) -> x.custom(1, v));
        Twins.bounds("seed, busy", Stories::busy, 0, 2147483647, (x, v) -> x.custom(1, v));
        Twins.bounds("seed of rounds", Stories::busy, 0, 2147483647, (x, v) -> x.custom(0, v));
        Twins.unmovedEverywhere("custom: both are out of bounds", x -> x.custom(2, -1), BAD);
        VillageOven x = new VillageOven();
        Check.due("lots", x.custom(1, 2147483647), 1);
        Check.due("rounds", x.custom(0, 0), 1);
    }

    /** The rows of lots, drawn by the document's words with numbers that cannot overflow. */
    private static int[] drawn(long told, int week, int n) {
        java.math.BigInteger all = java.math.BigInteger.ONE.shiftLeft(31);
        java.math.BigInteger seed = java.math.BigInteger.valueOf(told + week).mod(all);
        int[] row = new int[n];
        for (int i = 0; i < n; i++) {
            row[i] = i;
        }
        for (int k = n - 1; k >= 1; k--) {
            seed = seed.multiply(java.math.BigInteger.valueOf(1103515245)).add(java.math.BigInteger.valueOf(12345)).mod(all);
            int other = (int) (seed.longValue() / 65536 % (k + 1));
            int kept = row[k];
            row[k] = row[other];
            row[other] = kept;
        }
        return row;
    }

    /** "SEED begins as that told, plus WEEK, modulo 2^31": around its end. */
    private static void seedAtItsEdges() {
        int[] seeds = {0, 1, 65535, 65536, 2147483587, 2147483588, 2147483646, 2147483647};
        int[] weeks = {0, 1, 2, 59, 60};
        for (int seed : seeds) {
            VillageOven x = new VillageOven();
            x.households(7);
            x.custom(1, seed);
            for (int week : weeks) {
                row("seed " + seed, x, week, drawn(seed, week, 7));
            }
        }
    }

    /** "the row of a WEEK w begins with HOUSEHOLD w modulo n, and goes on by numbers, around". */
    private static void roundGoesAround() {
        for (int n = 2; n <= 8; n++) {
            VillageOven x = new VillageOven();
            x.households(n);
            int[] weeks = {0, 1, n - 1, n, n + 1, 59, 60};
            for (int week : weeks) {
                int[] want = new int[n];
                for (int place = 0; place < n; place++) {
                    want[place] = (week + place) % n;
                }
                row("round of " + n, x, week, want);
            }
        }
    }

    /** Each household has one place in each week. */
    private static void lotsAreRows() {
        VillageOven x = new VillageOven();
        x.households(5);
        x.custom(1, 2147483640);
        for (int week = 0; week <= 60; week++) {
            int seen = 0;
            for (int place = 0; place < 5; place++) {
                seen |= 1 << x.at(week, place);
            }
            Check.due("all five in week " + week, seen, 31);
        }
    }

    /** "for k = n - 1, .. 1": with the fewest and with the most households. */
    private static void lotsOfTwoAndEight() {
        int[] sizes = {2, 8};
        for (int n : sizes) {
            VillageOven x = new VillageOven();
            x.households(n);
            x.custom(1, 424242);
            for (int week = 0; week <= 60; week += 4) {
                row("lots of " + n, x, week, drawn(424242, week, n));
            }
        }
    }

    private static void eight(VillageOven x) {
        x.households(8);
    }

    private static void two(VillageOven x) {
        x.households(2);
    }

    /** "BAD (.. no such HOUSEHOLD, WEEK ..)": "WEEKS are 0 .. 60". */
    private static void toldBounds() {
        boolean[] ways = {false, true};
        for (boolean gift : ways) {
            Twins.bounds("told in a week", Stories::untouched, 0, 60, (x, v) -> x.told(v, 0, 1, gift));
            Twins.bounds("told in a week, busy", Stories::busy, 0, 60, (x, v) -> x.told(v, 4, 0, gift));
            Twins.bounds("told, a of 4", Stories::untouched, 0, 3, (x, v) -> x.told(5, v, 1, gift));
            Twins.bounds("told, b of 4", Stories::untouched, 0, 3, (x, v) -> x.told(5, 1, v, gift));
            Twins.bounds("told, a of 8", TurnsEdgesTest::eight, 0, 7, (x, v) -> x.told(5, v, 1, gift));
            Twins.bounds("told, b of 8", TurnsEdgesTest::eight, 0, 7, (x, v) -> x.told(5, 1, v, gift));
            Twins.unmoved("told, a of 2", TurnsEdgesTest::two, x -> x.told(5, 2, 1, gift), BAD);
            Twins.unmoved("told, b of 2", TurnsEdgesTest::two, x -> x.told(5, 1, 2, gift), BAD);
            Twins.unmovedEverywhere("told: all are out of bounds", x -> x.told(61, 8, -1, gift), BAD);
        }
    }

    /** "BAD: also one and itself". */
    private static void toldOneAndItself() {
        for (int i = 0; i < 4; i++) {
            int h = i;
            Twins.unmovedEverywhere("a swap of " + i + " and itself", x -> x.told(3, h, h, false), BAD);
            Twins.unmovedEverywhere("a gift of " + i + " to itself", x -> x.told(3, h, h, true), BAD);
        }
    }

    private static void fillWhatIsTold(VillageOven x) {
        for (int i = Stories.BUSY_TOLD; i < 30; i++) {
            x.told(i < 29 ? i : 60, i % 4, (i + 1) % 4, i % 3 == 0);
        }
    }

    /** "what was told for that WEEK (30 at most in all)". */
    private static void toldFull() {
        VillageOven x = new VillageOven();
        for (int i = 0; i < 30; i++) {
            Check.due("told " + i, x.told(i, 0, 1, false), 1);
            Check.due("so many", x.count(8), i + 1);
        }
        row("the thirtieth is kept", x, 29, 0, 2, 3, 1);
        Twins.unmovedBehind("once too often, a swap", TurnsEdgesTest::fillWhatIsTold, y -> y.told(60, 0, 1, false), FULL);
        Twins.unmovedBehind("once too often, a gift", TurnsEdgesTest::fillWhatIsTold, y -> y.told(45, 0, 1, true), FULL);
        Twins.unmovedBehind("BAD ahead of FULL, week", TurnsEdgesTest::fillWhatIsTold, y -> y.told(61, 0, 1, false), BAD);
        Twins.unmovedBehind("BAD ahead of FULL, a", TurnsEdgesTest::fillWhatIsTold, y -> y.told(0, 5, 1, false), BAD);
        Twins.unmovedBehind("BAD ahead of FULL, b", TurnsEdgesTest::fillWhatIsTold, y -> y.told(0, 0, 5, true), BAD);
        Twins.unmovedBehind("BAD ahead of FULL, itself", TurnsEdgesTest::fillWhatIsTold, y -> y.told(0, 2, 2, true), BAD);
    }

    private static void toldOfTheFirstAndLastWeek() {
        VillageOven x = new VillageOven();
        x.told(0, 0, 3, false);
        x.told(60, 0, 3, false);
        row("the first week", x, 0, 3, 1, 2, 0);
        row("the second is as by custom", x, 1, 1, 2, 3, 0);
        row("the last but one too", x, 59, 3, 0, 1, 2);
        row("the last week", x, 60, 3, 1, 2, 0);
    }

    /** "Then what was told for that WEEK .., in order". */
    private static void toldInOrder() {
        VillageOven x = new VillageOven();
        x.told(0, 0, 1, false);
        x.told(4, 1, 2, false);
        x.told(0, 1, 2, false);
        x.told(4, 0, 1, false);
        row("0 and 1, then 1 and 2", x, 0, 2, 0, 1, 3);
        row("1 and 2, then 0 and 1", x, 4, 1, 2, 0, 3);
        x.told(8, 3, 0, true);
        x.told(8, 3, 0, false);
        row("a gift, then a swap", x, 8, 1, 2, 0, 3);
    }

    /** "a SWAP of two exchanges them": both ways alike. */
    private static void swapOfNeighboursAndEnds() {
        VillageOven x = new VillageOven();
        x.told(0, 1, 2, false);
        row("neighbours", x, 0, 0, 2, 1, 3);
        x.told(4, 2, 1, false);
        row("told the other way", x, 4, 0, 2, 1, 3);
        x.told(8, 3, 0, false);
        row("the ends", x, 8, 3, 1, 2, 0);
        x.told(8, 0, 3, false);
        row("and back", x, 8, 0, 1, 2, 3);
    }

    /** "b is taken out of the row and put in again where a stood": b behind a. */
    private static void giftFromBehind() {
        VillageOven x = new VillageOven();
        x.told(0, 0, 3, true);
        row("the last to the first place", x, 0, 3, 0, 1, 2);
        x.told(4, 1, 2, true);
        row("to the place just ahead", x, 4, 0, 2, 1, 3);
        x.told(8, 2, 3, true);
        row("the last but one", x, 8, 0, 1, 3, 2);
    }

    /** "(counted in the row as it was)": b ahead of a comes to the place that a had. */
    private static void giftFromAhead() {
        VillageOven x = new VillageOven();
        x.told(0, 3, 0, true);
        row("the first to the last place", x, 0, 1, 2, 3, 0);
        x.told(4, 2, 1, true);
        row("to the place just behind", x, 4, 0, 2, 1, 3);
        x.told(8, 1, 0, true);
        row("the first to the second", x, 8, 1, 0, 2, 3);
        x.households(8);
        x.told(0, 7, 0, true);
        row("the first of eight to the last place", x, 0, 1, 2, 3, 4, 5, 6, 7, 0);
        x.told(8, 0, 7, true);
        row("the last of eight to the first place", x, 8, 7, 0, 1, 2, 3, 4, 5, 6);
    }

    private static void giftOfTwo() {
        VillageOven x = new VillageOven();
        x.households(2);
        x.told(0, 0, 1, true);
        row("from behind", x, 0, 1, 0);
        x.told(2, 1, 0, true);
        row("from ahead", x, 2, 1, 0);
        row("in no other week", x, 4, 0, 1);
    }

    /** "SLOTS (1 .. 8; 3 at first)". */
    private static void slotsBounds() {
        Twins.bounds("slots", Stories::untouched, 1, 8, VillageOven::slots);
        Twins.bounds("slots, busy", Stories::busy, 1, 8, VillageOven::slots);
        Twins.bounds("slots, open", Stories::opened, 1, 8, VillageOven::slots);
        VillageOven x = new VillageOven();
        Check.due("three at first", x.slots(8), 3);
        Check.due("eight", x.slots(1), 8);
        Check.due("refused", x.slots(0), BAD);
        Check.due("refused", x.slots(9), BAD);
        Check.due("one still", x.slots(3), 1);
    }

    /** "those in places below SLOTS BAKE in that WEEK, others WAIT". */
    private static void slotsAtTheirEdges() {
        for (int slots = 1; slots <= 8; slots++) {
            VillageOven x = new VillageOven();
            x.slots(slots);
            for (int h = 0; h < 4; h++) {
                Check.due("household " + h + " of " + slots + " slots", x.waits(h, 0, 0, 0), h < slots ? 0 : 1);
            }
        }
        VillageOven x = new VillageOven();
        x.households(8);
        x.slots(8);
        Check.due("eight bake", x.waits(7, 0, 60, 0), 0);
        x.slots(7);
        Check.due("the eighth waits", x.waits(7, 0, 0, 0), 1);
        x.households(2);
        Check.due("more slots than households", x.waits(1, 0, 60, 0), 0);
    }

    /** "The HOUSEHOLD in a place of a WEEK's row. BAD." */
    private static void atBounds() {
        Twins.bounds("at, week", Stories::untouched, 0, 60, (x, v) -> x.at(v, 0));
        Twins.bounds("at, week, busy", Stories::busy, 0, 60, (x, v) -> x.at(v, 4));
        Twins.bounds("at, place of 4", Stories::untouched, 0, 3, (x, v) -> x.at(60, v));
        Twins.bounds("at, place of 5", Stories::busy, 0, 4, (x, v) -> x.at(0, v));
        Twins.bounds("at, place of 8", TurnsEdgesTest::eight, 0, 7, (x, v) -> x.at(0, v));
        Twins.bounds("at, place of 2", TurnsEdgesTest::two, 0, 1, (x, v) -> x.at(0, v));
        Twins.unmovedEverywhere("at: both are out of bounds", x -> x.at(61, 8), BAD);
        Twins.unmoved("at only looks", Stories::untouched, x -> x.at(60, 3), 3);
    }

    /** "BAD: also from above to". */
    private static void waitsBounds() {
        for (int what = 0; what < 2; what++) {
            int w = what;
            Twins.bounds("waits, household of 4", Stories::untouched, 0, 3, (x, v) -> x.waits(v, 0, 60, w));
            Twins.bounds("waits, household of 5", Stories::busy, 0, 4, (x, v) -> x.waits(v, 0, 60, w));
            Twins.bounds("waits, from", Stories::busy, 0, 60, (x, v) -> x.waits(0, v, 60, w));
            Twins.bounds("waits, to", Stories::busy, 0, 60, (x, v) -> x.waits(0, 0, v, w));
            Twins.bounds("waits, from, up to 17", Stories::untouched, 0, 17, (x, v) -> x.waits(0, v, 17, w));
            Twins.bounds("waits, to, from 17 on", Stories::untouched, 17, 60, (x, v) -> x.waits(0, 17, v, w));
            Twins.bounds("waits, from and to", Stories::untouched, 0, 60, (x, v) -> x.waits(0, v, v, w));
            Twins.unmovedEverywhere("from above to", x -> x.waits(0, 60, 59, w), BAD);
        }
        Twins.bounds("waits, what", Stories::busy, 0, 1, (x, v) -> x.waits(0, 0, 60, v));
        Twins.unmovedEverywhere("waits: all are out of bounds", x -> x.waits(8, 61, -1, 2), BAD);
    }

    /** "In how many of the WEEKS from .. to a HOUSEHOLD WAITS": both ends count. */
    private static void waitsInOneWeek() {
        VillageOven x = new VillageOven();
        Check.due("week 1: it waits", x.waits(0, 1, 1, 0), 1);
        Check.due("week 2: it bakes", x.waits(0, 2, 2, 0), 0);
        Check.due("from a week in which it waits", x.waits(0, 1, 4, 0), 1);
        Check.due("to a week in which it waits", x.waits(0, 2, 5, 0), 1);
        Check.due("from one to the other", x.waits(0, 1, 5, 0), 2);
        Check.due("between them", x.waits(0, 2, 4, 0), 0);
        Check.due("the last week", x.waits(3, 60, 60, 0), 1);
        Check.due("the first week", x.waits(3, 0, 0, 0), 1);
        Check.due("all weeks", x.waits(3, 0, 60, 0), 16);
    }

    /** "the first WEEK from "from" on, up to "to", in which it is in place 0 (1; NONE)". */
    private static void waitsFirstWeek() {
        VillageOven x = new VillageOven();
        Check.due("just at from", x.waits(2, 2, 5, 1), 2);
        Check.due("one behind that", x.waits(2, 3, 6, 1), 6);
        Check.due("just at to", x.waits(2, 6, 6, 1), 6);
        Check.due("none between", x.waits(2, 3, 5, 1), NONE);
        Check.due("the last week", x.waits(0, 57, 60, 1), 60);
        Check.due("none in the last weeks", x.waits(0, 57, 59, 1), NONE);
        Check.due("the first week", x.waits(0, 0, 60, 1), 0);
        x.told(0, 0, 1, true);
        Check.due("given away", x.waits(0, 0, 60, 1), 4);
    }
}
