/** The edges that the document names in promises 17 to 23: a sentence, a test. */
public final class PlanEdgesTest {
    private static final int NONE = -1, BAD = -2, NOT = -3, FULL = -4;

    public static void main(String[] args) {
        orderBounds();
        ordersFull();
        openingBounds();
        openingsRise();
        openingsFull();
        clearing();
        planOfNothing();
        planWithLoaves();
        plannedBounds();
        plannedNothing();
        plannedWithLoaves();
        plannedLeastAndMost();
        plannedFromFirstToLastTick();
        plannedScorched();
        plannedTwoHeats();
        plannedLoavesTakeNothing();
        plannedLogsBurn();
        plannedByTheOvenAsItIs();
        plannedDoor();
        plannedRoomInEachRing();
        plannedRoomAtTheSameOpening();
        plannedHoles();
        plannedHoleGoesWithItsCrown();
        plannedFirstOfSeveral();
        plannedNothingIsLast();
        lastBounds();
        lastWithoutATickLeft();
        lastFirstThatFits();
        lastAtForty();
        lastFirstOfSeveral();
        woodBounds();
        woodWithLoaves();
        woodLeastAndMost();
        woodBehindWhatIsThere();
        woodRests();
        plansOnlyLook();
        Check.finish();
    }

    /** All linings stay at 10; kind 0 bakes 3 .. 5 ticks there, kind 1 never does. */
    private static void even(VillageOven x) {
        x.kind(1, false, 3, 5, 10, 10, 0);
        x.kind(1, false, 1, 60, 11, 2000, 0);
        x.kind(2, true, 3, 5, 10, 10, 0);
        x.kind(3, false, 3, 5, 10, 10, 0);
        x.kind(3, true, 3, 5, 10, 10, 0);
    }

    private static VillageOven evenOven(int order, int... openings) {
        VillageOven x = new VillageOven();
        even(x);
        x.order(order);
        for (int tick : openings) {
            x.opening(tick);
        }
        return x;
    }

    private static void planned(String where, VillageOven x, int order, int ring, int in, int out) {
        Check.due(where + ": ring of " + order, x.planned(order, 0), ring);
        Check.due(where + ": in of " + order, x.planned(order, 1), in);
        Check.due(where + ": out of " + order, x.planned(order, 2), out);
    }

    /** "An ORDER: its number. BAD": no such kind. */
    private static void orderBounds() {
        Twins.bounds("order", PlanEdgesTest::even, 0, 4, VillageOven::order);
        Twins.bounds("order, resting", Stories::resting, 0, 3, VillageOven::order);
        Twins.bounds("order, busy", Stories::busy, 0, 3, VillageOven::order);
        Twins.bounds("order, open", Stories::opened, 0, 3, VillageOven::order);
        Twins.unmoved("no kinds", Stories::untouched, x -> x.order(0), BAD);
    }

    private static void fourOrders(VillageOven x) {
        even(x);
        for (int i = 0; i < 4; i++) {
            x.order(i == 1 ? 4 : i);
        }
        x.opening(1);
        x.opening(5);
    }

    /** "ORDERS (4 at most)". */
    private static void ordersFull() {
        VillageOven x = new VillageOven();
        even(x);
        for (int i = 0; i < 4; i++) {
            Check.due("order " + i, x.order(0), i);
        }
        Check.due("four", x.count(3), 4);
        Twins.unmoved("an order too many", PlanEdgesTest::fourOrders, y -> y.order(0), FULL);
        Twins.unmovedBehind("a fifth with loaves inside", y -> y.order(1), y -> y.order(0), FULL);
        Twins.unmoved("BAD ahead of FULL", PlanEdgesTest::fourOrders, y -> y.order(5), BAD);
        Twins.unmoved("BAD ahead of FULL, below", PlanEdgesTest::fourOrders, y -> y.order(-1), BAD);
        x.clear();
        Check.due("again from 0", x.order(0), 0);
    }

    /** "OPENINGS .. are TICKS ahead (0 .. 40 ..)". */
    private static void openingBounds() {
        Twins.bounds("opening", Stories::untouched, 0, 40, VillageOven::opening);
        Twins.bounds("opening, resting", Stories::resting, 6, 40, VillageOven::opening);
        Twins.bounds("opening, busy", Stories::busy, 6, 40, VillageOven::opening);
        Twins.bounds("opening, open", Stories::opened, 6, 40, VillageOven::opening);
    }

    /** "rising"; "BAD: also not behind the last one". */
    private static void openingsRise() {
        for (int last = 0; last < 40; last += 13) {
            int tick = last;
            Stories.Story one = x -> x.opening(tick);
            Twins.bounds("behind " + last, one, last + 1, 40, VillageOven::opening);
            Twins.unmoved("the same tick, " + last, one, x -> x.opening(tick), BAD);
        }
        Stories.Story forty = x -> x.opening(40);
        Twins.unmoved("40 again", forty, x -> x.opening(40), BAD);
        Twins.unmoved("none is behind 40", forty, x -> x.opening(41), BAD);
        Twins.unmoved("39 is not behind 40", forty, x -> x.opening(39), BAD);
        VillageOven x = new VillageOven();
        Check.due("the first", x.opening(38), 1);
        Check.due("the next", x.opening(39), 2);
        Check.due("the last", x.opening(40), 3);
    }

    /** "OPENINGS (3 at most)". */
    private static void openingsFull() {
        Stories.Story three = x -> {
            even(x);
            x.order(0);
            x.opening(0);
            x.opening(5);
            x.opening(9);
        };
        Twins.unmoved("an opening too many", three, x -> x.opening(10), FULL);
        Twins.unmoved("the last tick of all", three, x -> x.opening(40), FULL);
        Twins.unmovedBehind("a fourth with loaves inside", x -> x.opening(9), x -> x.opening(10), FULL);
        Twins.unmoved("BAD ahead of FULL: not behind the last", three, x -> x.opening(9), BAD);
        Twins.unmoved("BAD ahead of FULL: above 40", three, x -> x.opening(41), BAD);
        Twins.unmoved("BAD ahead of FULL: below 0", three, x -> x.opening(-1), BAD);
        VillageOven x = new VillageOven();
        three.tell(x);
        Check.due("three", x.count(4), 3);
    }

    /** "No ORDERS and OPENINGS any more: how many ORDERS there were." */
    private static void clearing() {
        VillageOven x = new VillageOven();
        Check.due("none", x.clear(), 0);
        x.opening(40);
        Check.due("an opening is no order", x.clear(), 0);
        Check.due("openings begin anew", x.opening(0), 1);
        fourOrders(x);
        Check.due("four", x.clear(), 4);
        Check.due("no order", x.count(3), 0);
        Check.due("no opening", x.count(4), 0);
        Check.due("kinds stay", x.count(2), 5);
        Check.due("none to ask of", x.planned(0, 0), BAD);
        VillageOven y = new VillageOven();
        Stories.busy(y);
        Check.due("with loaves inside too", y.clear(), 3);
        VillageOven z = evenOven(0, 0, 2, 5);
        z.clear();
        z.order(0);
        z.opening(0);
        z.opening(2);
        Check.due("an opening that was cleared lets nothing out", z.plan(), 0);
        Check.due("nor one that was only looked for", z.last(0), 3);
        Check.due("nor one that was only looked for", z.plan(), 0);
    }

    /** Without orders, without openings, with one opening alone. */
    private static void planOfNothing() {
        Twins.unmoved("nothing", Stories::untouched, x -> x.plan(), 0);
        Twins.unmoved("no order", x -> x.opening(0), x -> x.plan(), 0);
        Stories.Story noOpening = x -> {
            even(x);
            x.order(0);
        };
        Twins.unmoved("no opening", noOpening, x -> x.plan(), 0);
        Stories.Story oneOpening = x -> {
            even(x);
            x.order(0);
            x.opening(0);
        };
        Twins.unmoved("one opening to go in, none to come out", oneOpening, x -> x.plan(), 0);
        Twins.unmoved("one opening, nothing planned", oneOpening, x -> x.planned(0, 2), NONE);
    }

    private static void oneLoaf(VillageOven x) {
        even(x);
        x.order(0);
        x.put(0, 0);
    }

    /** "NOT: there are LOAVES in THE OVEN." */
    private static void planWithLoaves() {
        Twins.unmovedWithLoaves("loaves inside", x -> x.plan(), NOT);
        Twins.unmoved("one loaf inside", PlanEdgesTest::oneLoaf, x -> x.plan(), NOT);
        Twins.unmoved("one loaf inside, no order", x -> {
            even(x);
            x.put(0, 0);
        }, x -> x.plan(), NOT);
        VillageOven x = evenOven(0, 0, 3);
        x.put(0, 0);
        Check.due("inside", x.plan(), NOT);
        x.take(0);
        Check.due("out", x.plan(), 1);
    }

    /** "Of an ORDER by THE PLAN: 0 RING, 1 the TICK in, 2 the TICK out .. BAD". */
    private static void plannedBounds() {
        Twins.bounds("planned, order", Stories::resting, 0, 2, (x, v) -> x.planned(v, 0));
        Twins.bounds("planned, what", Stories::resting, 0, 2, (x, v) -> x.planned(0, v));
        Twins.bounds("planned, fourth order", PlanEdgesTest::fourOrders, 0, 3, (x, v) -> x.planned(v, 0));
        Twins.unmovedEverywhere("planned: both are out of bounds", x -> x.planned(4, 3), BAD);
    }

    /** "NONE: nothing". */
    private static void plannedNothing() {
        planned("too cold", evenOven(1, 0, 40), 0, NONE, NONE, NONE);
        planned("no opening", evenOven(0), 0, NONE, NONE, NONE);
    }

    /** "BAD; NOT." */
    private static void plannedWithLoaves() {
        Twins.unmovedWithLoaves("loaves inside", x -> x.planned(0, 0), NOT);
        Twins.unmoved("one loaf inside", PlanEdgesTest::oneLoaf, x -> x.planned(0, 0), NOT);
        Twins.unmovedWithLoaves("BAD ahead of NOT, order", x -> x.planned(3, 0), BAD);
        Twins.unmovedWithLoaves("BAD ahead of NOT, what", x -> x.planned(0, 3), BAD);
    }

    /** "is there for TICKS t .. u - 1"; "All RESULTS must be GOOD": 3 .. 5 ticks. */
    private static void plannedLeastAndMost() {
        Check.due("2 ticks: raw", evenOven(0, 4, 6).plan(), 0);
        Check.due("3 ticks: good", evenOven(0, 4, 7).plan(), 1);
        Check.due("5 ticks: good", evenOven(0, 4, 9).plan(), 1);
        Check.due("6 ticks: dry", evenOven(0, 4, 10).plan(), 0);
    }

    /** "0 .. 40": from the first tick to the last. */
    private static void plannedFromFirstToLastTick() {
        for (int most = 39; most <= 41; most++) {
            VillageOven x = new VillageOven();
            x.kind(1, false, 30, most, 10, 10, 0);
            x.order(0);
            x.opening(0);
            x.opening(40);
            Check.due("40 ticks, most " + most, x.plan(), most < 40 ? 0 : 1);
            planned("from the first to the last", x, 0, most < 40 ? NONE : 0, most < 40 ? NONE : 0, most < 40 ? NONE : 40);
        }
    }

    /** Scorched as often as the kind may, and once more. */
    private static void plannedScorched() {
        int[] mays = {0, 1, 8, 9};
        for (int may : mays) {
            for (int more = 0; more < 2; more++) {
                VillageOven x = new VillageOven();
                x.kind(1, false, 1, 60, 10, 10, may);
                x.second(0, 1, 0, 9);
                x.order(0);
                x.opening(2);
                x.opening(3 + may + more);
                Check.due("may " + may + ", " + more + " more", x.plan(), 1 - more);
            }
        }
    }

    /** "behind its first n TICKS another span is its": counted from the opening at which it goes in. */
    private static void plannedTwoHeats() {
        for (int n = 2; n <= 4; n++) {
            VillageOven x = new VillageOven();
            x.kind(1, false, 3, 60, 10, 10, 0);
            x.second(0, n, 11, 2000);
            x.order(0);
            x.opening(7);
            x.opening(12);
            Check.due("three right ones with a first heat of " + n, x.plan(), n < 3 ? 0 : 1);
        }
    }

    /** "as if LOAVES took nothing". */
    private static void plannedLoavesTakeNothing() {
        VillageOven x = evenOven(0, 0, 3);
        Check.due("planned it is good", x.plan(), 1);
        x.put(0, 0);
        x.ticks(3);
        Check.due("but it takes 15 each tick, and is pale", x.loaf(0, 5), 3);
    }

    /** "from THE OVEN as it is .. going on TICK by TICK": its logs burn. */
    private static void plannedLogsBurn() {
        VillageOven x = evenOven(1, 2, 4);
        Check.due("cold", x.plan(), 0);
        x.log(50, 0);
        Check.due("the log burns in tick 0", x.plan(), 1);
        planned("all rings but the last are warm by then", x, 0, 0, 2, 4);
        Check.due("it was not burnt", x.count(0), 1);
    }

    private static void dampAndCracked(VillageOven x) {
        x.damp(0, 40);
        x.damp(1, 1000);
        x.crack(0, 4);
        x.air(3);
        x.log(30, 10);
        x.log(20, 60);
        x.log(50, 40);
    }

    /** "from THE OVEN as it is": damp, cracked, in its air, with its logs; ring 0 loses nothing at the door. */
    private static void plannedByTheOvenAsItIs() {
        VillageOven x = new VillageOven();
        VillageOven y = new VillageOven();
        dampAndCracked(x);
        dampAndCracked(y);
        int before = (int) y.heat(0, 0, 1);
        for (int tick = 0; tick < 6; tick++) {
            y.ticks(1);
            int warm = (int) y.heat(0, 0, 1);
            Check.holds("each tick has its warmth", warm != before);
            x.kind(1, false, 1, 1, warm, warm, 0);
            x.clear();
            x.order(tick);
            x.opening(tick);
            x.opening(tick + 1);
            planned("ring 0 at " + warm, x, 0, 0, tick, tick + 1);
            before = warm;
        }
    }

    private static void coldAir(VillageOven x, int least, int from, int to) {
        x.air(0);
        x.kind(1, false, least, 60, from, to, 0);
        x.order(0);
    }

    /** "with the DOOR OPEN in TICKS of OPENINGS alone, whatever was put or taken ahead (TICK 0 is the next one)". */
    private static void plannedDoor() {
        VillageOven open = new VillageOven();
        coldAir(open, 1, 6, 6);
        open.opening(0);
        open.opening(1);
        planned("ring 3 is at 6 behind an open tick 0", open, 0, 3, 0, 1);
        VillageOven shut = new VillageOven();
        coldAir(shut, 1, 6, 6);
        shut.put(0, 3);
        shut.take(0);
        shut.opening(1);
        shut.opening(2);
        planned("tick 0 is shut, whatever was put: at 6 behind tick 1", shut, 0, 3, 1, 2);
        shut.clear();
        shut.order(0);
        shut.opening(0);
        shut.opening(1);
        planned("and now by the opening", shut, 0, 3, 0, 1);
        VillageOven out = new VillageOven();
        coldAir(out, 1, 10, 10);
        out.opening(1);
        out.opening(2);
        planned("the tick at which it comes out cools it no more", out, 0, 0, 1, 2);
    }

    /** "ROOM be kept in each RING": 13 places in all, of which four orders of 3 take 3 rings. */
    private static void plannedRoomInEachRing() {
        VillageOven x = evenOven(3, 0, 4);
        planned("never in ring 0", x, 0, 1, 0, 4);
        x.order(3);
        x.order(3);
        Check.due("one in each ring", x.plan(), 3);
        x.order(3);
        Check.due("no more rings", x.plan(), 3);
        planned("nothing for the last", x, 3, NONE, NONE, NONE);
        VillageOven y = evenOven(0, 0, 4);
        for (int i = 1; i < 4; i++) {
            y.order(0);
        }
        Check.due("four ones", y.plan(), 4);
        planned("two in ring 0", y, 1, 0, 0, 4);
        planned("the third in ring 1", y, 2, 1, 0, 4);
    }

    /** What goes out at an opening leaves its room to what goes in at it. */
    private static void plannedRoomAtTheSameOpening() {
        VillageOven x = evenOven(3, 0, 3, 6);
        for (int i = 1; i < 4; i++) {
            x.order(3);
        }
        Check.due("all four", x.plan(), 4);
        planned("the fourth follows the first", x, 3, 1, 3, 6);
        VillageOven y = evenOven(3, 0, 2, 4);
        for (int i = 1; i < 4; i++) {
            y.order(3);
        }
        Check.due("two ticks are too few: all stay from first to last", y.plan(), 3);
        planned("from first to last", y, 2, 3, 0, 4);
    }

    /** "In a CROWN one LOAF of 1 PLACE may stand": in plans too. */
    private static void plannedHoles() {
        VillageOven x = evenOven(2, 0, 4);
        x.order(0);
        x.order(0);
        Check.due("all three", x.plan(), 3);
        planned("the crown in ring 0", x, 0, 0, 0, 4);
        planned("one in its hole", x, 1, 0, 0, 4);
        planned("only one", x, 2, 1, 0, 4);
        VillageOven y = evenOven(0, 0, 4);
        y.order(2);
        planned("the one is told first", y, 0, 0, 0, 4);
        planned("and the crown goes around it", y, 1, 0, 0, 4);
    }

    /** "ROOM be kept .. at all times": the hole is there only as long as its crown. */
    private static void plannedHoleGoesWithItsCrown() {
        VillageOven x = new VillageOven();
        x.kind(3, true, 3, 3, 10, 10, 0);
        x.kind(3, true, 2, 2, 10, 10, 0);
        x.kind(1, false, 5, 5, 10, 10, 0);
        x.order(0);
        x.order(1);
        x.order(2);
        x.opening(0);
        x.opening(3);
        x.opening(5);
        Check.due("all three", x.plan(), 3);
        planned("a crown ahead", x, 0, 1, 0, 3);
        planned("a crown behind", x, 1, 1, 3, 5);
        planned("one stays all the time, where there is room without them", x, 2, 0, 0, 5);
        VillageOven y = new VillageOven();
        y.kind(3, false, 5, 5, 10, 10, 0);
        y.kind(2, true, 3, 3, 10, 10, 0);
        y.kind(1, false, 5, 5, 10, 10, 0);
        y.order(1);
        y.order(2);
        y.order(2);
        y.opening(0);
        y.opening(3);
        y.opening(5);
        planned("the crown", y, 0, 0, 0, 3);
        planned("in its hole, and behind it in its place", y, 1, 0, 0, 5);
        planned("the other has no room in ring 0 while the crown is there", y, 2, 1, 0, 5);
    }

    /** "by ORDER 0, then 1, and so on: by the OPENING in, then that out, then the RING". */
    private static void plannedFirstOfSeveral() {
        planned("the first in, the first out, the first ring", evenOven(0, 0, 3, 5), 0, 0, 0, 3);
        planned("the first in ahead of the first out", evenOven(0, 0, 2, 5), 0, 0, 0, 5);
        planned("the second in, if it must be", evenOven(0, 0, 6, 9), 0, 0, 6, 9);
        VillageOven x = evenOven(0, 0, 3, 6);
        x.order(3);
        planned("order 0 has the first choice", x, 0, 0, 0, 3);
        planned("the first in ahead of the ring", x, 1, 1, 0, 3);
        VillageOven last = new VillageOven();
        last.air(0);
        last.kind(1, false, 1, 1, 0, 5, 0);
        last.order(0);
        last.opening(0);
        last.opening(2);
        last.opening(3);
        planned("the last choice of all", last, 0, 3, 2, 3);
    }

    /** "THE PLAN bakes the most ORDERS"; "nothing behind all these": order 0 yields only for more. */
    private static void plannedNothingIsLast() {
        VillageOven first = evenOven(1, 0, 4);
        first.order(0);
        Check.due("nothing for the first", first.plan(), 1);
        planned("nothing for the first", first, 0, NONE, NONE, NONE);
        planned("but for the second", first, 1, 0, 0, 4);
        VillageOven x = new VillageOven();
        x.air(0);
        x.kind(3, false, 1, 1, 9, 9, 0);
        x.order(0);
        x.order(0);
        x.opening(0);
        x.opening(1);
        Check.due("one ring is at 9", x.plan(), 1);
        planned("order 0 has it", x, 0, 1, 0, 1);
        planned("order 1 has nothing", x, 1, NONE, NONE, NONE);
        x.kind(1, false, 1, 1, 9, 9, 0);
        x.order(1);
        Check.due("one of 3, or one of 1", x.plan(), 1);
        planned("order 0 has it still", x, 0, 1, 0, 1);
        x.order(1);
        Check.due("two of 1", x.plan(), 2);
        planned("order 0 yields", x, 0, NONE, NONE, NONE);
        planned("order 1 too", x, 1, NONE, NONE, NONE);
        planned("for two", x, 2, 1, 0, 1);
        planned("for two", x, 3, 1, 0, 1);
        VillageOven y = new VillageOven();
        y.air(0);
        y.kind(3, false, 1, 1, 9, 9, 0);
        y.kind(1, false, 1, 1, 9, 9, 0);
        y.order(0);
        y.order(1);
        y.order(1);
        y.opening(0);
        y.opening(1);
        Check.due("two of 1, asked for the first time", y.plan(), 2);
    }

    /** "the TICK (what 0), how many it bakes (1)". */
    private static void lastBounds() {
        Twins.bounds("last", Stories::untouched, 0, 1, VillageOven::last);
        Twins.bounds("last, resting", Stories::resting, 0, 1, VillageOven::last);
        Twins.unmovedWithLoaves("BAD ahead of NOT", x -> x.last(2), BAD);
        Twins.unmovedWithLoaves("BAD ahead of NOT, below", x -> x.last(-1), BAD);
        Twins.unmoved("no opening yet: the first tick", Stories::untouched, x -> x.last(0), 0);
        Twins.unmoved("no opening yet: it bakes none", Stories::untouched, x -> x.last(1), 0);
    }

    /** "NONE: there is no TICK left". */
    private static void lastWithoutATickLeft() {
        for (int what = 0; what < 2; what++) {
            int asked = what;
            Twins.unmoved("the first is at 40", x -> x.opening(40), x -> x.last(asked), NONE);
            Twins.unmoved("the second is at 40", x -> {
                even(x);
                x.order(0);
                x.opening(36);
                x.opening(40);
            }, x -> x.last(asked), NONE);
        }
        Twins.unmoved("the last is at 39: 40 is left", x -> x.opening(39), x -> x.last(0), 40);
        Twins.unmoved("40 bakes none", x -> x.opening(39), x -> x.last(1), 0);
    }

    /** "BAD; NOT: LOAVES are in THE OVEN; FULL: three OPENINGS are told." */
    private static void lastFirstThatFits() {
        Stories.Story three = x -> {
            even(x);
            x.opening(1);
            x.opening(2);
            x.opening(40);
        };
        Stories.Story threeAndLoaf = x -> {
            three.tell(x);
            x.put(0, 0);
        };
        for (int what = 0; what < 2; what++) {
            int asked = what;
            Twins.unmoved("three are told, 40 among them", three, x -> x.last(asked), FULL);
            Twins.unmoved("three are told, and a loaf is inside", threeAndLoaf, x -> x.last(asked), NOT);
            Twins.unmovedWithLoaves("loaves are inside", x -> x.last(asked), NOT);
            Twins.unmoved("one loaf inside", PlanEdgesTest::oneLoaf, x -> x.last(asked), NOT);
            Twins.unmoved("a third was told, all else in use", x -> {
                Stories.resting(x);
                x.opening(9);
            }, x -> x.last(asked), FULL);
            Twins.unmoved("a third was told, and the door is open", x -> {
                Stories.resting(x);
                x.opening(9);
                x.put(0, 0);
                x.take(2);
            }, x -> x.last(asked), FULL);
        }
        Twins.unmoved("BAD ahead of FULL", three, x -> x.last(2), BAD);
        Twins.unmoved("BAD ahead of all", threeAndLoaf, x -> x.last(-1), BAD);
        Twins.unmoved("a loaf is inside, no tick is left", x -> {
            even(x);
            x.opening(40);
            x.put(0, 0);
        }, x -> x.last(0), NOT);
    }

    /** "(behind all OPENINGS, 40 at most)". */
    private static void lastAtForty() {
        for (int first = 10; first <= 11; first++) {
            VillageOven x = new VillageOven();
            x.kind(1, false, 30, 60, 10, 10, 0);
            x.order(0);
            x.opening(first);
            Check.due("30 ticks behind " + first, x.last(1), first == 10 ? 1 : 0);
            Check.due("40, or, if it does not do, the first", x.last(0), first == 10 ? 40 : 12);
        }
    }

    /** "lets THE PLAN bake the most; of several the first". */
    private static void lastFirstOfSeveral() {
        VillageOven x = evenOven(0, 7);
        Check.due("three, four or five ticks: the first", x.last(0), 10);
        Check.due("one", x.last(1), 1);
        Check.due("the opening was not told", x.count(4), 1);
        x.opening(10);
        Check.due("it bakes already: the first tick", x.last(0), 11);
        Check.due("one", x.last(1), 1);
        VillageOven y = evenOven(3, 7);
        for (int i = 1; i < 4; i++) {
            y.order(3);
        }
        y.opening(10);
        Check.due("the fourth in a second batch of three ticks", y.last(0), 13);
        Check.due("four", y.last(1), 4);
    }

    /** "WOOD for a WARMTH v, a RING q, r TICKS (0 .. 40) and a LOG". */
    private static void woodBounds() {
        Stories.Story[] stories = {Stories::untouched, Stories::resting};
        for (Stories.Story story : stories) {
            Twins.bounds("wood, v", story, 0, 2000, (x, v) -> x.wood(v, 0, 0, 1, 0));
            Twins.bounds("wood, ring", story, 0, 3, (x, v) -> x.wood(10, v, 0, 1, 0));
            Twins.bounds("wood, r", story, 0, 40, (x, v) -> x.wood(10, 0, v, 1, 0));
            Twins.bounds("wood, size", story, 1, 50, (x, v) -> x.wood(10, 0, 0, v, 0));
            Twins.bounds("wood, water", story, 0, 60, (x, v) -> x.wood(10, 0, 0, 1, v));
        }
        Twins.unmovedEverywhere("wood: all are out of bounds", x -> x.wood(2001, 4, 41, 51, 61), BAD);
    }

    /** "BAD; NOT: LOAVES are in THE OVEN." */
    private static void woodWithLoaves() {
        Twins.unmovedWithLoaves("loaves are inside", x -> x.wood(0, 0, 0, 1, 0), NOT);
        Twins.unmoved("one loaf inside", PlanEdgesTest::oneLoaf, x -> x.wood(0, 0, 0, 1, 0), NOT);
        Twins.unmoved("BAD ahead of NOT, v", Stories::busy, x -> x.wood(2001, 0, 0, 1, 0), BAD);
        Twins.unmoved("BAD ahead of NOT, ring", Stories::busy, x -> x.wood(0, 4, 0, 1, 0), BAD);
        Twins.unmoved("BAD ahead of NOT, r", Stories::busy, x -> x.wood(0, 0, 41, 1, 0), BAD);
        Twins.unmoved("BAD ahead of NOT, size", Stories::busy, x -> x.wood(0, 0, 0, 51, 0), BAD);
        Twins.unmoved("BAD ahead of NOT, water", Stories::busy, x -> x.wood(0, 0, 0, 1, 61), BAD);
    }

    private static VillageOven burnt(int logs, int size, int rest) {
        VillageOven x = new VillageOven();
        for (int i = 0; i < logs; i++) {
            x.log(size, 0);
        }
        x.ticks(logs);
        if (rest > 0) {
            x.ticks(rest);
        }
        return x;
    }

    /** "the least number of such LOGS (1 .. 30 ..) by which .. the LINING of q is at v or more; none". */
    private static void woodLeastAndMost() {
        VillageOven x = new VillageOven();
        Check.due("warm enough without any: one all the same", x.wood(0, 0, 0, 1, 60), 1);
        Check.due("warm enough without any: one all the same", x.wood(10, 3, 40, 1, 60), 1);
        int[] counts = {1, 2, 15, 29, 30};
        for (int logs : counts) {
            int warm = (int) burnt(logs, 20, 0).heat(0, 0, 1);
            Check.due("so many just do", x.wood(warm, 0, 0, 20, 0), logs);
            Check.due("for one more they do not", x.wood(warm + 1, 0, 0, 20, 0), logs == 30 ? NONE : logs + 1);
        }
    }

    /** "however many are there", "laid in THE FIRE behind what is there": none, some, as many as there may be. */
    private static void woodBehindWhatIsThere() {
        int[] there = {0, 1, 2, 29, 30};
        for (int logs : there) {
            VillageOven x = new VillageOven();
            VillageOven y = new VillageOven();
            for (int i = 0; i < logs; i++) {
                x.log(1 + i, 60);
                y.log(1 + i, 60);
            }
            if (logs > 0) {
                y.ticks(logs);
            }
            y.log(50, 0);
            y.ticks(1);
            y.log(50, 0);
            y.ticks(1);
            for (int ring = 0; ring < 4; ring++) {
                int warm = (int) y.heat(ring, 0, 1);
                Check.due("two behind " + logs, x.wood(warm, ring, 0, 50, 0), 2);
                Check.due("for one more, behind " + logs, x.wood(warm + 1, ring, 0, 50, 0), 3);
            }
            Check.due("what is there stays", x.count(0), logs);
        }
    }

    /** "when all are burnt and r more TICKS went by (the DOOR shut)". */
    private static void woodRests() {
        VillageOven x = new VillageOven();
        int[] rests = {0, 1, 39, 40};
        for (int rest : rests) {
            int warm = (int) burnt(3, 50, rest).heat(1, 0, 1);
            Check.due("three, behind " + rest, x.wood(warm, 1, rest, 50, 0), 3);
            Check.due("for one more, behind " + rest, x.wood(warm + 1, 1, rest, 50, 0), 4);
        }
        VillageOven open = new VillageOven();
        open.kind(1, false, 1, 1, 0, 0, 0);
        open.put(0, 3);
        open.take(0);
        int warm = (int) burnt(1, 50, 0).heat(1, 0, 1);
        Check.due("the door is shut, though one was taken just now", open.wood(warm, 1, 0, 50, 0), 1);
    }

    /** Plans are asked for, not carried out. */
    private static void plansOnlyLook() {
        VillageOven x = new VillageOven();
        Stories.resting(x);
        int bakes = x.plan();
        int ring = x.planned(0, 0);
        int tick = x.last(0);
        int logs = x.wood(250, 3, 3, 30, 20);
        Check.holds("the story's plan bakes some", bakes > 0 && ring >= 0 && tick >= 0 && logs > 1);
        Twins.unmoved("plan", Stories::resting, y -> y.plan(), bakes);
        Twins.unmoved("planned", Stories::resting, y -> y.planned(0, 0), ring);
        Twins.unmoved("last", Stories::resting, y -> y.last(0), tick);
        Twins.unmoved("wood", Stories::resting, y -> y.wood(250, 3, 3, 30, 20), logs);
    }
}
