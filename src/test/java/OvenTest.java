/** Promises 1 to 9: the oven. */
public final class OvenTest {
    public static void main(String[] args) {
        newObject();
        airBounds();
        airCools();
        dampBounds();
        dampDries();
        dryingIsCapped();
        crackBounds();
        crackSpeeds();
        fireBounds();
        fireHeats();
        logBounds();
        logsBurnInOrder();
        ticksBounds();
        heatBounds();
        sumBounds();
        soakingGoesBothWays();
        objectsAreApart();
        Check.finish();
    }

    private static void linings(String where, VillageOven x, long r0, long r1, long r2, long r3) {
        long[] want = {r0, r1, r2, r3};
        for (int ring = 0; ring < 4; ring++) {
            Check.due(where + ": lining of ring " + ring, x.heat(ring, 0, 0), want[ring]);
        }
    }

    private static void balance(String where, VillageOven x) {
        Check.due(where + ": balance", x.sum(1) + x.sum(2) + x.sum(3), x.sum(0) + x.sum(4));
    }

    private static void newObject() {
        VillageOven x = new VillageOven();
        for (int ring = 0; ring < 4; ring++) {
            Check.due("new lining", x.heat(ring, 0, 0), 100);
            Check.due("new body", x.heat(ring, 1, 0), 300);
            Check.due("new skin", x.heat(ring, 2, 0), 600);
            for (int layer = 0; layer < 3; layer++) {
                Check.due("new warmth", x.heat(ring, layer, 1), 10);
            }
            Check.due("new damp", x.damp(ring, 0), 0);
            Check.due("new crack", x.crack(ring, 0), 0);
            Check.due("new room", x.room(ring), new int[] {2, 3, 4, 4}[ring]);
        }
        Check.due("new air", x.air(10), 10);
        Check.due("new fire", x.fire(0), 0);
        Check.due("new households", x.households(4), 4);
        Check.due("new slots", x.slots(3), 3);
        for (int what = 0; what < 9; what++) {
            Check.due("new count " + what, x.count(what), 0);
        }
        Check.due("held at first", x.sum(4), 4000);
        Check.due("held", x.sum(1), 4000);
    }

    private static void airBounds() {
        VillageOven x = new VillageOven();
        Check.due("air(0)", x.air(0), 10);
        Check.due("air(40)", x.air(40), 0);
        Check.due("air(41)", x.air(41), -2);
        Check.due("air(-1)", x.air(-1), -2);
        Check.due("air(MIN)", x.air(Integer.MIN_VALUE), -2);
        Check.due("air kept", x.air(7), 40);
    }

    private static void airCools() {
        VillageOven x = new VillageOven();
        x.air(0);
        x.ticks(1);
        Check.due("each skin loses 10", x.sum(2), 40);
        Check.due("skin", x.heat(0, 2, 0), 590);
        VillageOven warm = new VillageOven();
        warm.air(40);
        warm.ticks(5);
        Check.due("nothing comes in from warmer air", warm.sum(1), 4000);
        Check.due("nothing is lost to warmer air", warm.sum(2), 0);
    }

    private static void dampBounds() {
        VillageOven x = new VillageOven();
        Check.due("damp(3, 1000)", x.damp(3, 1000), 0);
        Check.due("damp(3, 1001)", x.damp(3, 1001), -2);
        Check.due("damp(3, -1)", x.damp(3, -1), -2);
        Check.due("damp(4, 0)", x.damp(4, 0), -2);
        Check.due("damp(-1, 0)", x.damp(-1, 0), -2);
        Check.due("damp kept", x.damp(3, 5), 1000);
        x.ticks(3);
        Check.due("a cold ring stays damp", x.damp(3, 0), 5);
    }

    private static void dampDries() {
        VillageOven x = new VillageOven();
        x.damp(0, 7);
        x.log(6, 8);
        x.ticks(1);
        Check.due("1075 came in, so 90 warm: 1 dries", x.damp(0, 7), 6);
        Check.due("lost by drying", x.sum(2), 25);
        VillageOven y = new VillageOven();
        y.damp(0, 7);
        y.log(6, 9);
        y.ticks(1);
        Check.due("1059 came in, so 89 warm: none dries", y.damp(0, 7), 7);
        Check.due("nothing lost", y.sum(2), 0);
    }

    private static void dryingIsCapped() {
        VillageOven x = new VillageOven();
        x.damp(0, 1000);
        x.damp(1, 3);
        x.log(50, 0);
        x.ticks(1);
        Check.due("760 warm: 168 dry", x.damp(0, 0), 832);
        Check.due("not more than are damp", x.damp(1, 0), 0);
        Check.due("lost", x.sum(2), 25 * 171);
        balance("drying", x);
    }

    private static void crackBounds() {
        VillageOven x = new VillageOven();
        Check.due("crack(0, 4)", x.crack(0, 4), 0);
        Check.due("crack(0, 5)", x.crack(0, 5), -2);
        Check.due("crack(0, -1)", x.crack(0, -1), -2);
        Check.due("crack(4, 1)", x.crack(4, 1), -2);
        Check.due("crack(-1, 1)", x.crack(-1, 1), -2);
        Check.due("crack kept", x.crack(0, 1), 4);
        Check.due("other rings have their own", x.crack(1, 0), 0);
    }

    private static void crackSpeeds() {
        VillageOven x = new VillageOven();
        x.air(0);
        x.crack(2, 4);
        x.ticks(1);
        Check.due("a cracked skin loses five times", x.heat(2, 2, 0), 550);
        Check.due("lost", x.sum(2), 80);
        x.ticks(1);
        Check.due("body 10 warm, skin 9: six times 1 comes, then 5 times 9 go", x.heat(2, 2, 0), 511);
        Check.due("body", x.heat(2, 1, 0), 294);
    }

    private static void fireBounds() {
        VillageOven x = new VillageOven();
        Check.due("fire(2)", x.fire(2), 0);
        Check.due("fire(3)", x.fire(3), -2);
        Check.due("fire(-1)", x.fire(-1), -2);
        Check.due("fire(1)", x.fire(1), 2);
        Check.due("fire(0)", x.fire(0), 1);
    }

    private static void fireHeats() {
        VillageOven x = new VillageOven();
        x.log(50, 0);
        x.ticks(1);
        linings("fire in 0", x, 5700, 2300, 300, 100);
        VillageOven y = new VillageOven();
        y.fire(2);
        y.log(50, 0);
        y.ticks(1);
        linings("fire in 2", y, 300, 2100, 3700, 2300);
        VillageOven z = new VillageOven();
        z.fire(1);
        z.log(1, 1);
        z.ticks(1);
        Check.due("197 came in", z.sum(0), 197);
        linings("98 here, 49 to the next, 50 back", z, 144, 172, 141, 104);
    }

    private static void logBounds() {
        VillageOven x = new VillageOven();
        Check.due("log(0, 0)", x.log(0, 0), -2);
        Check.due("log(51, 0)", x.log(51, 0), -2);
        Check.due("log(1, -1)", x.log(1, -1), -2);
        Check.due("log(1, 61)", x.log(1, 61), -2);
        for (int i = 1; i <= 30; i++) {
            Check.due("log " + i, x.log(i % 2 == 0 ? 1 : 50, i % 3 == 0 ? 60 : 0), i);
        }
        Check.due("a log too many", x.log(1, 0), -4);
        Check.due("BAD ahead of FULL", x.log(0, 0), -2);
        Check.due("logs", x.count(0), 30);
        Check.due("one burns", x.ticks(1), 29);
        Check.due("room for one", x.log(1, 60), 30);
    }

    private static void logsBurnInOrder() {
        VillageOven x = new VillageOven();
        x.log(50, 60);
        x.log(10, 0);
        x.log(1, 60);
        x.ticks(1);
        Check.due("50 with 60 water", x.sum(0), 2200);
        x.fire(2);
        x.ticks(1);
        Check.due("10 dry ones", x.sum(0), 4200);
        Check.due("the last", x.ticks(5), 0);
        Check.due("1 with 60 water", x.sum(0), 4244);
        balance("logs", x);
    }

    private static void ticksBounds() {
        VillageOven x = new VillageOven();
        Check.due("ticks(0)", x.ticks(0), -2);
        Check.due("ticks(61)", x.ticks(61), -2);
        Check.due("ticks(-5)", x.ticks(-5), -2);
        Check.due("no tick went by", x.count(5), 0);
        Check.due("ticks(60)", x.ticks(60), 0);
        Check.due("ticks(1)", x.ticks(1), 0);
        Check.due("61 went by", x.count(5), 61);
    }

    private static void heatBounds() {
        VillageOven x = new VillageOven();
        Check.due("heat(-1, 0, 0)", x.heat(-1, 0, 0), -2);
        Check.due("heat(4, 0, 0)", x.heat(4, 0, 0), -2);
        Check.due("heat(0, -1, 0)", x.heat(0, -1, 0), -2);
        Check.due("heat(0, 3, 0)", x.heat(0, 3, 0), -2);
        Check.due("heat(0, 0, -1)", x.heat(0, 0, -1), -2);
        Check.due("heat(0, 0, 2)", x.heat(0, 0, 2), -2);
        x.air(0);
        x.ticks(1);
        Check.due("590 by 60, cut", x.heat(3, 2, 1), 9);
    }

    private static void sumBounds() {
        VillageOven x = new VillageOven();
        Check.due("sum(-1)", x.sum(-1), -2);
        Check.due("sum(5)", x.sum(5), -2);
        x.log(50, 0);
        x.ticks(60);
        Check.due("in", x.sum(0), 10000);
        Check.due("held at first stays", x.sum(4), 4000);
        balance("sums", x);
    }

    private static void soakingGoesBothWays() {
        VillageOven x = new VillageOven();
        x.air(0);
        x.kind(1, false, 1, 60, 0, 2000, 0);
        x.put(0, 3);
        x.ticks(1);
        linings("an open door", x, 100, 90, 80, 45);
        x.ticks(1);
        linings("the body warms the lining, the lining its neighbours", x, 99, 92, 82, 45);
        balance("soaking", x);
    }

    private static void objectsAreApart() {
        VillageOven x = new VillageOven();
        VillageOven y = new VillageOven();
        x.log(50, 0);
        x.note(0, 0, 1);
        x.told(0, 0, 1, false);
        x.ticks(2);
        Check.due("y has no log", y.count(0), 0);
        Check.due("y is cold", y.sum(1), 4000);
        Check.due("y has no note", y.count(7), 0);
        Check.due("y was told nothing", y.at(0, 0), 0);
    }
}
