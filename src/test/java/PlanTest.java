/** Promises 17 to 23: orders, openings, plans, the best last opening, wood. */
public final class PlanTest {
    public static void main(String[] args) {
        orderBounds();
        openingBounds();
        clearing();
        planRefused();
        preferences();
        roomInPlans();
        holesInPlans();
        oneBehindTheOther();
        mostAheadOfFirst();
        scorchedInPlans();
        openingsCool();
        doorOfNowIsNotOpen();
        plansLeaveTheOvenAlone();
        lastBounds();
        lastFinds();
        woodBounds();
        woodCounts();
        woodOfThirty();
        woodBehindWhatIsThere();
        Check.finish();
    }

    /** Warmth stays 10 in all rings; kind 0 of one place bakes 2 .. 4 ticks there, kind 1 is a crown of 2. */
    private static VillageOven still() {
        VillageOven x = new VillageOven();
        x.kind(1, false, 2, 4, 10, 10, 0);
        x.kind(2, true, 2, 4, 10, 10, 0);
        x.kind(3, false, 2, 4, 10, 10, 0);
        x.kind(1, false, 1, 60, 11, 2000, 0);
        return x;
    }

    private static void planned(String where, VillageOven x, int order, int ring, int in, int out) {
        Check.due(where + ": ring of " + order, x.planned(order, 0), ring);
        Check.due(where + ": in of " + order, x.planned(order, 1), in);
        Check.due(where + ": out of " + order, x.planned(order, 2), out);
    }

    private static void orderBounds() {
        VillageOven x = new VillageOven();
        Check.due("no kind", x.order(0), -2);
        x.kind(1, false, 1, 1, 0, 0, 0);
        Check.due("kind -1", x.order(-1), -2);
        Check.due("kind 1", x.order(1), -2);
        for (int i = 0; i < 4; i++) {
            Check.due("order " + i, x.order(0), i);
        }
        Check.due("an order too many", x.order(0), -4);
        Check.due("BAD ahead of FULL", x.order(1), -2);
        Check.due("orders", x.count(3), 4);
    }

    private static void openingBounds() {
        VillageOven x = new VillageOven();
        Check.due("opening(-1)", x.opening(-1), -2);
        Check.due("opening(41)", x.opening(41), -2);
        Check.due("opening(0)", x.opening(0), 1);
        Check.due("opening(0) again", x.opening(0), -2);
        Check.due("opening(5)", x.opening(5), 2);
        Check.due("opening(4)", x.opening(4), -2);
        Check.due("opening(39)", x.opening(39), 3);
        Check.due("an opening too many", x.opening(40), -4);
        Check.due("BAD ahead of FULL", x.opening(39), -2);
        Check.due("openings", x.count(4), 3);
    }

    private static void clearing() {
        VillageOven x = still();
        x.order(0);
        x.order(1);
        x.opening(40);
        Check.due("clear", x.clear(), 2);
        Check.due("orders", x.count(3), 0);
        Check.due("openings", x.count(4), 0);
        Check.due("kinds stay", x.count(2), 4);
        Check.due("clear again", x.clear(), 0);
        Check.due("openings begin anew", x.opening(0), 1);
        Check.due("orders begin anew", x.order(3), 0);
    }

    private static void planRefused() {
        VillageOven x = still();
        Check.due("nothing to plan", x.plan(), 0);
        Check.due("no order", x.planned(0, 0), -2);
        x.order(0);
        Check.due("no opening", x.plan(), 0);
        Check.due("nothing planned", x.planned(0, 0), -1);
        Check.due("order -1", x.planned(-1, 0), -2);
        Check.due("order 1", x.planned(1, 0), -2);
        Check.due("what -1", x.planned(0, -1), -2);
        Check.due("what 3", x.planned(0, 3), -2);
        x.put(0, 0);
        Check.due("a loaf is inside", x.plan(), -3);
        Check.due("planned then", x.planned(0, 0), -3);
        Check.due("last then", x.last(0), -3);
        Check.due("BAD ahead of NOT", x.planned(0, 3), -2);
        Check.due("BAD ahead of NOT, last", x.last(2), -2);
        x.take(0);
        Check.due("it is out", x.plan(), 0);
    }

    private static void preferences() {
        VillageOven x = still();
        x.order(0);
        x.opening(0);
        x.opening(2);
        x.opening(4);
        Check.due("plan", x.plan(), 1);
        planned("the first opening in, the first out, the first ring", x, 0, 0, 0, 2);
        VillageOven y = still();
        y.order(0);
        y.opening(0);
        y.opening(1);
        y.opening(4);
        planned("one tick is too few", y, 0, 0, 0, 4);
        VillageOven z = still();
        z.order(0);
        z.opening(0);
        z.opening(5);
        z.opening(7);
        planned("five and seven are too many", z, 0, 0, 5, 7);
        z.order(3);
        Check.due("too cold for one", z.plan(), 1);
        planned("nothing", z, 1, -1, -1, -1);
        planned("the other as it was", z, 0, 0, 5, 7);
    }

    private static void roomInPlans() {
        VillageOven x = still();
        for (int i = 0; i < 4; i++) {
            x.order(2);
        }
        x.opening(1);
        x.opening(3);
        Check.due("three of 3 places", x.plan(), 3);
        planned("room", x, 0, 1, 1, 3);
        planned("room", x, 1, 2, 1, 3);
        planned("room", x, 2, 3, 1, 3);
        planned("room", x, 3, -1, -1, -1);
        x.opening(6);
        Check.due("all four with one more opening", x.plan(), 4);
        planned("earlier is better", x, 0, 1, 1, 3);
        planned("earlier is better", x, 3, 1, 3, 6);
    }

    private static void holesInPlans() {
        VillageOven x = still();
        x.order(1);
        x.order(0);
        x.order(0);
        x.opening(0);
        x.opening(2);
        Check.due("a crown and two", x.plan(), 3);
        planned("the crown", x, 0, 0, 0, 2);
        planned("one in its hole", x, 1, 0, 0, 2);
        planned("one beside", x, 2, 1, 0, 2);
        VillageOven y = still();
        y.order(0);
        y.order(0);
        y.order(1);
        y.opening(0);
        y.opening(2);
        planned("two ones first", y, 0, 0, 0, 2);
        planned("two ones first", y, 1, 0, 0, 2);
        planned("so no crown there", y, 2, 1, 0, 2);
    }

    private static void oneBehindTheOther() {
        VillageOven x = new VillageOven();
        x.kind(3, false, 3, 9, 10, 10, 0);
        x.kind(3, false, 2, 2, 10, 10, 0);
        x.order(0);
        x.order(0);
        x.order(0);
        x.order(1);
        x.opening(0);
        x.opening(3);
        x.opening(5);
        Check.due("all four", x.plan(), 4);
        planned("behind", x, 3, 1, 3, 5);
        planned("first", x, 0, 1, 0, 3);
        planned("third", x, 2, 3, 0, 3);
    }

    private static void mostAheadOfFirst() {
        VillageOven x = new VillageOven();
        x.air(0);
        x.kind(1, false, 1, 1, 8, 9, 0);
        x.kind(3, false, 1, 1, 9, 9, 0);
        x.kind(2, false, 1, 1, 9, 9, 0);
        x.order(0);
        x.opening(0);
        x.opening(1);
        planned("alone it goes in ring 1", x, 0, 1, 0, 1);
        x.order(1);
        Check.due("both", x.plan(), 2);
        planned("it leaves ring 1 to the one that bakes there alone", x, 0, 2, 0, 1);
        planned("which takes all of it", x, 1, 1, 0, 1);
        x.order(2);
        Check.due("not all three", x.plan(), 2);
        planned("of several with two the first", x, 0, 1, 0, 1);
        planned("of several with two the first", x, 1, -1, -1, -1);
        planned("of several with two the first", x, 2, 1, 0, 1);
    }

    private static void scorchedInPlans() {
        for (int may = 0; may < 4; may++) {
            VillageOven x = new VillageOven();
            x.kind(1, false, 2, 9, 10, 10, may);
            x.second(0, 2, 0, 9);
            x.order(0);
            x.opening(0);
            x.opening(4);
            Check.due("scorched twice, " + may + " allowed", x.plan(), may < 2 ? 0 : 1);
        }
    }

    private static void openingsCool() {
        VillageOven x = new VillageOven();
        x.air(0);
        int[] warmths = {10, 9, 8, 6};
        for (int ring = 0; ring < 4; ring++) {
            Check.due("kind", x.kind(1, false, 1, 9, warmths[ring], warmths[ring], 9), ring);
            x.order(ring);
        }
        x.opening(0);
        x.opening(1);
        Check.due("a tick with an open door leaves each ring another warmth", x.plan(), 4);
        for (int ring = 0; ring < 4; ring++) {
            planned("cooled", x, ring, ring, 0, 1);
        }
        x.clear();
        x.order(3);
        x.opening(1);
        Check.due("one opening is none to come out at", x.plan(), 0);
        x.opening(2);
        planned("the tick ahead was shut", x, 0, 3, 1, 2);
        x.clear();
        x.kind(1, false, 1, 1, 0, 5, 0);
        x.order(4);
        x.opening(0);
        x.opening(2);
        x.opening(3);
        planned("the last ring between the last openings", x, 0, 3, 2, 3);
    }

    private static void doorOfNowIsNotOpen() {
        VillageOven x = new VillageOven();
        x.air(0);
        x.kind(1, false, 2, 2, 10, 10, 0);
        x.kind(1, false, 1, 9, 0, 2000, 0);
        x.order(0);
        x.opening(1);
        x.opening(3);
        int shut = x.plan();
        int wood = x.wood(30, 3, 4, 50, 0);
        x.put(1, 3);
        x.take(0);
        Check.due("as if nothing had been put or taken", x.plan(), shut);
        Check.due("wood with the door shut", x.wood(30, 3, 4, 50, 0), wood);
    }

    private static void plansLeaveTheOvenAlone() {
        VillageOven x = still();
        VillageOven y = still();
        VillageOven[] both = {x, y};
        for (VillageOven z : both) {
            z.damp(0, 500);
            z.damp(1, 500);
            for (int i = 0; i < 5; i++) {
                z.log(50, i);
            }
            z.order(0);
            z.opening(0);
        }
        x.plan();
        x.last(0);
        x.last(1);
        x.wood(1000, 0, 3, 50, 0);
        x.planned(0, 0);
        Check.due("openings stay", x.count(4), 1);
        Check.due("ticks stay", x.count(5), 0);
        Check.due("logs stay", x.count(0), 5);
        x.ticks(3);
        y.ticks(3);
        for (int i = 0; i < 12; i++) {
            Check.due("heat " + i, x.heat(i / 3, i % 3, 0), y.heat(i / 3, i % 3, 0));
        }
        for (int i = 0; i < 5; i++) {
            Check.due("sum " + i, x.sum(i), y.sum(i));
        }
        Check.due("damp", x.damp(0, 0), y.damp(0, 0));
    }

    private static void lastBounds() {
        VillageOven x = still();
        Check.due("last(-1)", x.last(-1), -2);
        Check.due("last(2)", x.last(2), -2);
        Check.due("no order: the first tick", x.last(0), 0);
        x.opening(40);
        Check.due("no tick left", x.last(0), -1);
        Check.due("no tick left", x.last(1), -1);
        x.clear();
        x.opening(1);
        x.opening(2);
        Check.due("behind all", x.last(0), 3);
        x.opening(40);
        Check.due("three are told: FULL ahead of NONE", x.last(0), -4);
        Check.due("BAD ahead of FULL", x.last(2), -2);
        x.put(0, 0);
        Check.due("NOT ahead of FULL", x.last(0), -3);
    }

    private static void lastFinds() {
        VillageOven x = still();
        x.order(0);
        x.order(0);
        x.opening(3);
        Check.due("two ticks behind it", x.last(0), 5);
        Check.due("both", x.last(1), 2);
        VillageOven y = still();
        for (int i = 0; i < 4; i++) {
            y.order(2);
        }
        y.opening(10);
        Check.due("three at once", y.last(1), 3);
        Check.due("as early as may be", y.last(0), 12);
        y.opening(12);
        Check.due("four with a second batch", y.last(1), 4);
        Check.due("as early as may be", y.last(0), 14);
        y.clear();
        y.order(3);
        y.opening(7);
        Check.due("none bakes: the first tick", y.last(0), 8);
        Check.due("none bakes", y.last(1), 0);
    }

    private static void woodBounds() {
        VillageOven x = new VillageOven();
        Check.due("v -1", x.wood(-1, 0, 0, 1, 0), -2);
        Check.due("v 2001", x.wood(2001, 0, 0, 1, 0), -2);
        Check.due("ring -1", x.wood(0, -1, 0, 1, 0), -2);
        Check.due("ring 4", x.wood(0, 4, 0, 1, 0), -2);
        Check.due("r -1", x.wood(0, 0, -1, 1, 0), -2);
        Check.due("r 41", x.wood(0, 0, 41, 1, 0), -2);
        Check.due("size 0", x.wood(0, 0, 0, 0, 0), -2);
        Check.due("size 51", x.wood(0, 0, 0, 51, 0), -2);
        Check.due("water -1", x.wood(0, 0, 0, 1, -1), -2);
        Check.due("water 61", x.wood(0, 0, 0, 1, 61), -2);
        Check.due("the least is one", x.wood(0, 0, 0, 1, 60), 1);
        Check.due("at the edges", x.wood(0, 3, 40, 50, 60), 1);
        Check.due("none", x.wood(2000, 3, 0, 1, 60), -1);
        x.kind(1, false, 1, 1, 0, 0, 0);
        x.put(0, 0);
        Check.due("a loaf is inside", x.wood(0, 0, 0, 1, 60), -3);
        Check.due("BAD ahead of NOT", x.wood(0, 0, 0, 0, 60), -2);
    }

    private static void woodCounts() {
        VillageOven x = new VillageOven();
        Check.due("570 by one log", x.wood(570, 0, 0, 50, 0), 1);
        Check.due("571 by two", x.wood(571, 0, 0, 50, 0), 2);
        Check.due("1000 by two", x.wood(1000, 0, 0, 50, 0), 2);
        Check.due("1001 by three", x.wood(1001, 0, 0, 50, 0), 3);
        Check.holds("it cools while it rests", x.wood(570, 0, 5, 50, 0) > 1);
    }

    private static void woodOfThirty() {
        VillageOven y = new VillageOven();
        long before = 0;
        for (int i = 0; i < 30; i++) {
            before = y.heat(0, 0, 1);
            y.log(20, 0);
            y.ticks(1);
        }
        int warm = (int) y.heat(0, 0, 1);
        Check.holds("it grows warmer to the end", warm > before);
        VillageOven x = new VillageOven();
        Check.due("thirty just do", x.wood(warm, 0, 0, 20, 0), 30);
        Check.due("thirty do not", x.wood(warm + 1, 0, 0, 20, 0), -1);
    }

    private static void woodBehindWhatIsThere() {
        VillageOven x = new VillageOven();
        x.log(50, 0);
        Check.due("one is there", x.wood(1000, 0, 0, 50, 0), 1);
        Check.due("two more for 1001", x.wood(1001, 0, 0, 50, 0), 2);
        for (int i = 0; i < 29; i++) {
            x.log(1, 60);
        }
        Check.due("thirty are there, all the same", x.wood(500, 0, 0, 50, 0), new VillageOvenAfter(x).logsFor(500));
        Check.due("logs stay", x.count(0), 30);
    }

    /** Burns what is there in a new oven, then one log after the other, until ring 0 is warm enough. */
    private static final class VillageOvenAfter {
        private final VillageOven y = new VillageOven();

        VillageOvenAfter(VillageOven like) {
            y.log(50, 0);
            for (int i = 1; i < like.count(0); i++) {
                y.log(1, 60);
            }
            y.ticks(like.count(0));
        }

        int logsFor(int warmth) {
            for (int logs = 1; logs <= 30; logs++) {
                y.log(50, 0);
                y.ticks(1);
                if (y.heat(0, 0, 1) >= warmth) {
                    return logs;
                }
            }
            return -1;
        }
    }
}
