/** Promises 24 to 29: households and their turns. */
public final class TurnsTest {
    public static void main(String[] args) {
        householdsBounds();
        householdsForget();
        customBounds();
        rounds();
        lots();
        toldBounds();
        swaps();
        gifts();
        slotsBounds();
        atBounds();
        waitsBounds();
        waiting();
        Check.finish();
    }

    private static void row(String where, VillageOven x, int week, int... want) {
        for (int place = 0; place < want.length; place++) {
            Check.due(where + ": week " + week + ", place " + place, x.at(week, place), want[place]);
        }
        Check.due(where + ": no place behind the last", x.at(week, want.length), -2);
    }

    private static void householdsBounds() {
        VillageOven x = new VillageOven();
        Check.due("households(1)", x.households(1), -2);
        Check.due("households(9)", x.households(9), -2);
        Check.due("households(8)", x.households(8), 4);
        Check.due("households(2)", x.households(2), 8);
        row("two", x, 1, 1, 0);
        Check.due("households(4)", x.households(4), 2);
    }

    private static void householdsForget() {
        VillageOven x = new VillageOven();
        x.told(0, 0, 3, false);
        x.slots(1);
        x.custom(1, 12345);
        Check.due("refused", x.households(9), -2);
        Check.due("still told", x.count(8), 1);
        Check.due("as many as before", x.households(4), 4);
        Check.due("nothing is told", x.count(8), 0);
        Check.due("slots stay", x.slots(1), 1);
        x.households(7);
        row("custom stays", x, 0, 0, 3, 1, 5, 2, 4, 6);
    }

    private static void customBounds() {
        VillageOven x = new VillageOven();
        Check.due("custom(-1, 0)", x.custom(-1, 0), -2);
        Check.due("custom(2, 0)", x.custom(2, 0), -2);
        Check.due("custom(1, -1)", x.custom(1, -1), -2);
        Check.due("custom(0, MIN)", x.custom(0, Integer.MIN_VALUE), -2);
        row("still round", x, 3, 3, 0, 1, 2);
        Check.due("custom(1, 0)", x.custom(1, 0), 1);
        Check.due("custom(1, 2147483647)", x.custom(1, 2147483647), 1);
        Check.due("custom(0, 5)", x.custom(0, 5), 1);
        row("round again", x, 3, 3, 0, 1, 2);
    }

    private static void rounds() {
        VillageOven x = new VillageOven();
        row("round", x, 0, 0, 1, 2, 3);
        row("round", x, 5, 1, 2, 3, 0);
        row("round", x, 60, 0, 1, 2, 3);
        x.households(7);
        row("round of seven", x, 60, 4, 5, 6, 0, 1, 2, 3);
    }

    private static void lots() {
        VillageOven x = new VillageOven();
        x.households(7);
        x.custom(1, 12345);
        row("lots", x, 0, 0, 3, 1, 5, 2, 4, 6);
        VillageOven y = new VillageOven();
        y.households(7);
        y.custom(1, 12344);
        row("the week is added", y, 1, 0, 3, 1, 5, 2, 4, 6);
        VillageOven z = new VillageOven();
        VillageOven around = new VillageOven();
        z.custom(1, 2147483647);
        around.custom(1, 0);
        for (int week = 1; week <= 60; week++) {
            for (int place = 0; place < 4; place++) {
                Check.due("modulo 2^31", z.at(week, place), around.at(week - 1, place));
            }
        }
    }

    private static void toldBounds() {
        VillageOven x = new VillageOven();
        Check.due("week -1", x.told(-1, 0, 1, false), -2);
        Check.due("week 61", x.told(61, 0, 1, false), -2);
        Check.due("a -1", x.told(0, -1, 1, false), -2);
        Check.due("a 4", x.told(0, 4, 1, false), -2);
        Check.due("b -1", x.told(0, 1, -1, true), -2);
        Check.due("b 4", x.told(0, 1, 4, true), -2);
        Check.due("one and itself", x.told(0, 2, 2, false), -2);
        Check.due("nothing told", x.count(8), 0);
        for (int i = 0; i < 30; i++) {
            Check.due("told " + i, x.told(i * 2, 0, 1, i % 2 == 0), 1);
        }
        Check.due("told too often", x.told(60, 0, 1, false), -4);
        Check.due("BAD ahead of FULL", x.told(60, 0, 0, false), -2);
        Check.due("thirty", x.count(8), 30);
    }

    private static void swaps() {
        VillageOven x = new VillageOven();
        x.told(1, 1, 3, false);
        row("a swap", x, 1, 3, 2, 1, 0);
        row("another week", x, 5, 1, 2, 3, 0);
        x.told(1, 3, 1, false);
        row("and back", x, 1, 1, 2, 3, 0);
        x.custom(1, 77);
        int first = x.at(2, 0);
        int last = x.at(2, 3);
        x.told(2, last, first, false);
        Check.due("a swap in lots", x.at(2, 0), last);
        Check.due("a swap in lots", x.at(2, 3), first);
    }

    private static void gifts() {
        VillageOven x = new VillageOven();
        x.households(5);
        x.told(0, 1, 4, true);
        row("from behind to the front", x, 0, 0, 4, 1, 2, 3);
        x.told(5, 3, 0, true);
        row("from the front to behind", x, 5, 1, 2, 3, 0, 4);
        x.told(10, 0, 4, true);
        x.told(10, 4, 1, false);
        row("in the order told", x, 10, 1, 0, 4, 2, 3);
        x.told(15, 4, 1, false);
        x.told(15, 0, 4, true);
        row("in the order told, the other way", x, 15, 4, 0, 2, 3, 1);
    }

    private static void slotsBounds() {
        VillageOven x = new VillageOven();
        Check.due("slots(0)", x.slots(0), -2);
        Check.due("slots(9)", x.slots(9), -2);
        Check.due("slots(8)", x.slots(8), 3);
        Check.due("slots(1)", x.slots(1), 8);
        Check.due("slots(3)", x.slots(3), 1);
    }

    private static void atBounds() {
        VillageOven x = new VillageOven();
        Check.due("week -1", x.at(-1, 0), -2);
        Check.due("week 61", x.at(61, 0), -2);
        Check.due("place -1", x.at(0, -1), -2);
        Check.due("place 4", x.at(0, 4), -2);
        Check.due("at the edge", x.at(60, 3), 3);
    }

    private static void waitsBounds() {
        VillageOven x = new VillageOven();
        Check.due("household -1", x.waits(-1, 0, 0, 0), -2);
        Check.due("household 4", x.waits(4, 0, 0, 0), -2);
        Check.due("from -1", x.waits(0, -1, 0, 0), -2);
        Check.due("to 61", x.waits(0, 0, 61, 0), -2);
        Check.due("from above to", x.waits(0, 5, 4, 0), -2);
        Check.due("from 61", x.waits(0, 61, 61, 0), -2);
        Check.due("what -1", x.waits(0, 0, 0, -1), -2);
        Check.due("what 2", x.waits(0, 0, 0, 2), -2);
        Check.due("at the edges", x.waits(0, 60, 60, 1), 60);
    }

    private static void waiting() {
        VillageOven x = new VillageOven();
        Check.due("in place 3 of week 1, 5, .. 57", x.waits(0, 0, 60, 0), 15);
        Check.due("one week", x.waits(0, 1, 1, 0), 1);
        Check.due("one week, it bakes", x.waits(0, 2, 2, 0), 0);
        Check.due("first", x.waits(2, 0, 60, 1), 2);
        Check.due("first from 3 on", x.waits(2, 3, 60, 1), 6);
        Check.due("none", x.waits(2, 3, 5, 1), -1);
        Check.due("just at the end", x.waits(2, 3, 6, 1), 6);
        x.told(3, 3, 2, false);
        Check.due("by a swap", x.waits(2, 3, 5, 1), 3);
        x.slots(4);
        Check.due("all bake", x.waits(0, 0, 60, 0), 0);
        x.slots(1);
        Check.due("one bakes", x.waits(0, 0, 3, 0), 3);
    }
}
